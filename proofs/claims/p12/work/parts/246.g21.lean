/-! the reference cuts -/
def TxR (σ : RS) (x : TxY) : Prop := (gI σ 12).toInt = x.2 ∧ okY x ∧ ∀ j, (aI σ 0 j).toInt = x.1 j
def atR (v b : Int) : Prop := v = b ∨ (v = 0 ∧ b = -1)
theorem TxR.kp {σ τ : RS} {x : TxY} (h : TxR σ x) (e : gI τ 12 = gI σ 12) (a : aI τ 0 = aI σ 0) : TxR τ x := by
  unfold TxR
  rw [e, a]
  exact h
theorem TxR.at0 {σ : RS} {x : TxY} (h : TxR σ x) {k : Int32} (h0 : 0 ≤ k) (hk : k < gI σ 12) : (aI σ 0 k.toNatClampNeg).toInt = btY x k.toInt := by
  have a : 0 ≤ k.toInt := Int32.le_iff_toInt_le.mp h0
  have b : k.toInt < x.2 := by rw [← h.1]; exact Int32.lt_iff_toInt_lt.mp hk
  rw [bt_in a b]
  exact h.2.2 _
theorem TxR.out {σ : RS} {x : TxY} (h : TxR σ x) {k : Int32} (hk : ¬ k < gI σ 12) : btY x k.toInt = -1 := by
  refine bt_out (fun q => hk ?_)
  rw [← h.1] at q
  exact Int32.lt_iff_toInt_lt.mpr q
/-- what a token's cutting changes -/
def LkR (t : Nat) (σ τ : RS) : Prop := (∀ k, k ≠ 13 → gI τ k = gI σ k) ∧ (∀ k, k ≠ 3 → k ≠ 6 → k ≠ 8 → k ≠ 10 → k ≠ 11 → aI τ k = aI σ k) ∧ ∀ j, j ≠ t → aI τ 3 j = aI σ 3 j ∧ aI τ 6 j = aI σ 6 j
theorem LkR.rf {t : Nat} {σ : RS} : LkR t σ σ := ⟨fun _ _ => rfl, fun _ _ _ _ _ _ => rfl, fun _ _ => ⟨rfl, rfl⟩⟩
theorem LkR.i {t : Nat} {σ τ : RS} {v : Int32} (h : LkR t σ τ) : LkR t σ (sI τ 13 v) := ⟨fun k hk => by rw [gI_sI, nb_ne hk]; exact h.1 k hk, h.2.1, h.2.2⟩
theorem LkR.m {t k : Nat} {σ τ : RS} {f : Nat → Int64} (h : LkR t σ τ) : LkR t σ (sM τ k f) := h
theorem LkR.a {t k : Nat} {σ τ : RS} {f : Nat → Int32} (h : LkR t σ τ) (hk : k = 8 ∨ k = 10 ∨ k = 11) : LkR t σ (sA τ k f) := by
  refine ⟨h.1, fun j h1 h2 h3 h4 h5 => (aI_ne (by omega)).trans (h.2.1 j h1 h2 h3 h4 h5), fun j hj => ?_⟩
  rw [aI_ne (by omega), aI_ne (by omega)]
  exact h.2.2 j hj
theorem LkR.u3 {t : Nat} {σ τ : RS} {v : Int32} (h : LkR t σ τ) : LkR t σ (sA τ 3 (upd (aI τ 3) t v)) := by
  refine ⟨h.1, fun j h1 h2 h3 h4 h5 => (aI_ne h1).trans (h.2.1 j h1 h2 h3 h4 h5), fun j hj => ?_⟩
  rw [aI_eq, upd_ne hj, aI_ne (by decide)]
  exact h.2.2 j hj
theorem LkR.u6 {t : Nat} {σ τ : RS} {v : Int32} (h : LkR t σ τ) : LkR t σ (sA τ 6 (upd (aI τ 6) t v)) := by
  refine ⟨h.1, fun j h1 h2 h3 h4 h5 => (aI_ne h2).trans (h.2.1 j h1 h2 h3 h4 h5), fun j hj => ?_⟩
  rw [aI_ne (by decide), aI_eq, upd_ne hj]
  exact h.2.2 j hj
theorem i64_eq {x y : Int64} (h : lg_cmp x y = 0) : x = y := by
  unfold lg_cmp at h
  split at h
  · exact absurd h (by decide)
  · split at h
    · assumption
    · exact absurd h (by decide)
def woR (v : Int64) : Int32 := if v = Int64.ofInt 27707072068280686 then 0 else if v = Int64.ofInt 1652126821 then 1 else if v = Int64.ofInt 1667785074 then 2 else if v = Int64.ofInt 6909556 then 3 else if v = Int64.ofInt 1819242087 then 4 else if v = Int64.ofInt 1987012964 then 5 else if v = Int64.ofInt 26982 then 6 else if v = Int64.ofInt 1701606245 then 7 else if v = Int64.ofInt 512852847717 then 8 else if v = Int64.ofInt 6713202 then 9 else if v = Int64.ofInt 25711 then 10 else if v = Int64.ofInt 126956707537768 then 11 else if v = Int64.ofInt 1667330917 then 12 else if v = Int64.ofInt 28258988067220596 then 13 else if v = Int64.ofInt 422826041707 then 14 else if v = Int64.ofInt 7165066978433856869 then 15 else if v = Int64.ofInt 125780071117422 then 16 else if v = Int64.ofInt 499968536439 then 17 else if v = Int64.ofInt 7631481 then 18 else if v = Int64.ofInt 426836779880 then 19 else if v = Int64.ofInt 28826370426301561 then 20 else if v = Int64.ofInt 439855505772 then 21 else if v = Int64.ofInt 1953658213 then 22 else if v = Int64.ofInt 439721161573 then 23 else -2
theorem wox {x y : Int64} : lg_cmp x y = 0 ↔ x = y := by
  refine ⟨i64_eq, fun e => ?_⟩
  subst e
  unfold lg_cmp
  rw [if_neg (fun q => absurd q (Int64.lt_irrefl)), if_pos rfl]
/-- bytes of a NAME -/
abbrev alY (l : List Int) : Prop := ∀ d ∈ l, isLY d ∨ isDY d
theorem al_b {l : List Int} (h : alY l) : ∀ d ∈ l, 1 ≤ d ∧ d < 256 := fun d hd => by have := h d hd; omega
theorem atR.l {v b : Int} (h : atR v b) : (isLY v ↔ isLY b) ∧ (isDY v ↔ isDY b) ∧ (isLY v ∨ isDY v → v = b) := by
  rcases h with h | h
  · subst h
    exact ⟨Iff.rfl, Iff.rfl, fun _ => rfl⟩
  · refine ⟨?_, ?_, ?_⟩ <;> omega
theorem wo_c : ∀ (l : List Int) (v : Int64), alY l → l.length ≤ 8 → v.toInt = vlY 256 l → (woR v = -2 ∧ wcY l = 80) ∨ (0 ≤ woR v ∧ (woR v).toInt ≤ 23 ∧ wcY l = 50 + wdR (woR v).toInt) := by
  intro l v ha hl hv
  have key : ∀ (m : List Int) (u : Int64), alY m → u.toInt = vlY 256 m → (v = u ↔ l = m) := by
    intro m u hm hu
    refine ⟨fun e => vl_inj (by decide) l m (al_b ha) (al_b hm) (by rw [← hv, ← hu, e]), fun e => ?_⟩
    rw [← Int64.toInt_inj, hv, hu, e]
  have k0 := key [110, 97, 101, 108, 111, 111, 98] (Int64.ofInt 27707072068280686) (by decide) (by decide)
  have k1 := key [101, 116, 121, 98] (Int64.ofInt 1652126821) (by decide) (by decide)
  have k2 := key [114, 97, 104, 99] (Int64.ofInt 1667785074) (by decide) (by decide)
  have k3 := key [116, 110, 105] (Int64.ofInt 6909556) (by decide) (by decide)
  have k4 := key [103, 110, 111, 108] (Int64.ofInt 1819242087) (by decide) (by decide)
  have k5 := key [100, 105, 111, 118] (Int64.ofInt 1987012964) (by decide) (by decide)
  have k6 := key [102, 105] (Int64.ofInt 26982) (by decide) (by decide)
  have k7 := key [101, 115, 108, 101] (Int64.ofInt 1701606245) (by decide) (by decide)
  have k8 := key [101, 108, 105, 104, 119] (Int64.ofInt 512852847717) (by decide) (by decide)
  have k9 := key [114, 111, 102] (Int64.ofInt 6713202) (by decide) (by decide)
  have k10 := key [111, 100] (Int64.ofInt 25711) (by decide) (by decide)
  have k11 := key [104, 99, 116, 105, 119, 115] (Int64.ofInt 126956707537768) (by decide) (by decide)
  have k12 := key [101, 115, 97, 99] (Int64.ofInt 1667330917) (by decide) (by decide)
  have k13 := key [116, 108, 117, 97, 102, 101, 100] (Int64.ofInt 28258988067220596) (by decide) (by decide)
  have k14 := key [107, 97, 101, 114, 98] (Int64.ofInt 422826041707) (by decide) (by decide)
  have k15 := key [101, 117, 110, 105, 116, 110, 111, 99] (Int64.ofInt 7165066978433856869) (by decide) (by decide)
  have k16 := key [110, 114, 117, 116, 101, 114] (Int64.ofInt 125780071117422) (by decide) (by decide)
  have k17 := key [119, 111, 114, 104, 116] (Int64.ofInt 499968536439) (by decide) (by decide)
  have k18 := key [121, 114, 116] (Int64.ofInt 7631481) (by decide) (by decide)
  have k19 := key [104, 99, 116, 97, 99] (Int64.ofInt 426836779880) (by decide) (by decide)
  have k20 := key [121, 108, 108, 97, 110, 105, 102] (Int64.ofInt 28826370426301561) (by decide) (by decide)
  have k21 := key [108, 97, 110, 105, 102] (Int64.ofInt 439855505772) (by decide) (by decide)
  have k22 := key [101, 117, 114, 116] (Int64.ofInt 1953658213) (by decide) (by decide)
  have k23 := key [101, 115, 108, 97, 102] (Int64.ofInt 439721161573) (by decide) (by decide)
  unfold woR wcY
  by_cases q0 : l = [110, 97, 101, 108, 111, 111, 98]
  · have e := k0.mpr q0
    subst q0
    subst e
    right
    decide
  by_cases q1 : l = [101, 116, 121, 98]
  · have e := k1.mpr q1
    subst q1
    subst e
    right
    decide
  by_cases q2 : l = [114, 97, 104, 99]
  · have e := k2.mpr q2
    subst q2
    subst e
    right
    decide
  by_cases q3 : l = [116, 110, 105]
  · have e := k3.mpr q3
    subst q3
    subst e
    right
    decide
  by_cases q4 : l = [103, 110, 111, 108]
  · have e := k4.mpr q4
    subst q4
    subst e
    right
    decide
  by_cases q5 : l = [100, 105, 111, 118]
  · have e := k5.mpr q5
    subst q5
    subst e
    right
    decide
  by_cases q6 : l = [102, 105]
  · have e := k6.mpr q6
    subst q6
    subst e
    right
    decide
  by_cases q7 : l = [101, 115, 108, 101]
  · have e := k7.mpr q7
    subst q7
    subst e
    right
    decide
  by_cases q8 : l = [101, 108, 105, 104, 119]
  · have e := k8.mpr q8
    subst q8
    subst e
    right
    decide
  by_cases q9 : l = [114, 111, 102]
  · have e := k9.mpr q9
    subst q9
    subst e
    right
    decide
  by_cases q10 : l = [111, 100]
  · have e := k10.mpr q10
    subst q10
    subst e
    right
    decide
  by_cases q11 : l = [104, 99, 116, 105, 119, 115]
  · have e := k11.mpr q11
    subst q11
    subst e
    right
    decide
  by_cases q12 : l = [101, 115, 97, 99]
  · have e := k12.mpr q12
    subst q12
    subst e
    right
    decide
  by_cases q13 : l = [116, 108, 117, 97, 102, 101, 100]
  · have e := k13.mpr q13
    subst q13
    subst e
    right
    decide
  by_cases q14 : l = [107, 97, 101, 114, 98]
  · have e := k14.mpr q14
    subst q14
    subst e
    right
    decide
  by_cases q15 : l = [101, 117, 110, 105, 116, 110, 111, 99]
  · have e := k15.mpr q15
    subst q15
    subst e
    right
    decide
  by_cases q16 : l = [110, 114, 117, 116, 101, 114]
  · have e := k16.mpr q16
    subst q16
    subst e
    right
    decide
  by_cases q17 : l = [119, 111, 114, 104, 116]
  · have e := k17.mpr q17
    subst q17
    subst e
    right
    decide
  by_cases q18 : l = [121, 114, 116]
  · have e := k18.mpr q18
    subst q18
    subst e
    right
    decide
  by_cases q19 : l = [104, 99, 116, 97, 99]
  · have e := k19.mpr q19
    subst q19
    subst e
    right
    decide
  by_cases q20 : l = [121, 108, 108, 97, 110, 105, 102]
  · have e := k20.mpr q20
    subst q20
    subst e
    right
    decide
  by_cases q21 : l = [108, 97, 110, 105, 102]
  · have e := k21.mpr q21
    subst q21
    subst e
    right
    decide
  by_cases q22 : l = [101, 117, 114, 116]
  · have e := k22.mpr q22
    subst q22
    subst e
    right
    decide
  by_cases q23 : l = [101, 115, 108, 97, 102]
  · have e := k23.mpr q23
    subst q23
    subst e
    right
    decide
  left
  constructor
  · rw [if_neg (fun z => q0 (k0.mp z))]; rw [if_neg (fun z => q1 (k1.mp z))]; rw [if_neg (fun z => q2 (k2.mp z))]; rw [if_neg (fun z => q3 (k3.mp z))]; rw [if_neg (fun z => q4 (k4.mp z))]; rw [if_neg (fun z => q5 (k5.mp z))]; rw [if_neg (fun z => q6 (k6.mp z))]; rw [if_neg (fun z => q7 (k7.mp z))]; rw [if_neg (fun z => q8 (k8.mp z))]; rw [if_neg (fun z => q9 (k9.mp z))]; rw [if_neg (fun z => q10 (k10.mp z))]; rw [if_neg (fun z => q11 (k11.mp z))]; rw [if_neg (fun z => q12 (k12.mp z))]; rw [if_neg (fun z => q13 (k13.mp z))]; rw [if_neg (fun z => q14 (k14.mp z))]; rw [if_neg (fun z => q15 (k15.mp z))]; rw [if_neg (fun z => q16 (k16.mp z))]; rw [if_neg (fun z => q17 (k17.mp z))]; rw [if_neg (fun z => q18 (k18.mp z))]; rw [if_neg (fun z => q19 (k19.mp z))]; rw [if_neg (fun z => q20 (k20.mp z))]; rw [if_neg (fun z => q21 (k21.mp z))]; rw [if_neg (fun z => q22 (k22.mp z))]; rw [if_neg (fun z => q23 (k23.mp z))]
  · rw [if_neg q0]; rw [if_neg q1]; rw [if_neg q2]; rw [if_neg q3]; rw [if_neg q4]; rw [if_neg q5]; rw [if_neg q6]; rw [if_neg q7]; rw [if_neg q8]; rw [if_neg q10]; rw [if_neg q9]; rw [if_neg q11]; rw [if_neg q12]; rw [if_neg q13]; rw [if_neg q14]; rw [if_neg q15]; rw [if_neg q16]; rw [if_neg q17]; rw [if_neg q18]; rw [if_neg q19]; rw [if_neg q20]; rw [if_neg q21]; rw [if_neg q22]; rw [if_neg q23]
theorem wc_long {l : List Int} (h : 8 < l.length) : wcY l = 80 := by
  unfold wcY
  rw [if_neg (fun e => by rw [e] at h; exact absurd h (by decide))]; rw [if_neg (fun e => by rw [e] at h; exact absurd h (by decide))]; rw [if_neg (fun e => by rw [e] at h; exact absurd h (by decide))]; rw [if_neg (fun e => by rw [e] at h; exact absurd h (by decide))]; rw [if_neg (fun e => by rw [e] at h; exact absurd h (by decide))]; rw [if_neg (fun e => by rw [e] at h; exact absurd h (by decide))]; rw [if_neg (fun e => by rw [e] at h; exact absurd h (by decide))]; rw [if_neg (fun e => by rw [e] at h; exact absurd h (by decide))]; rw [if_neg (fun e => by rw [e] at h; exact absurd h (by decide))]; rw [if_neg (fun e => by rw [e] at h; exact absurd h (by decide))]; rw [if_neg (fun e => by rw [e] at h; exact absurd h (by decide))]; rw [if_neg (fun e => by rw [e] at h; exact absurd h (by decide))]; rw [if_neg (fun e => by rw [e] at h; exact absurd h (by decide))]; rw [if_neg (fun e => by rw [e] at h; exact absurd h (by decide))]; rw [if_neg (fun e => by rw [e] at h; exact absurd h (by decide))]; rw [if_neg (fun e => by rw [e] at h; exact absurd h (by decide))]; rw [if_neg (fun e => by rw [e] at h; exact absurd h (by decide))]; rw [if_neg (fun e => by rw [e] at h; exact absurd h (by decide))]; rw [if_neg (fun e => by rw [e] at h; exact absurd h (by decide))]; rw [if_neg (fun e => by rw [e] at h; exact absurd h (by decide))]; rw [if_neg (fun e => by rw [e] at h; exact absurd h (by decide))]; rw [if_neg (fun e => by rw [e] at h; exact absurd h (by decide))]; rw [if_neg (fun e => by rw [e] at h; exact absurd h (by decide))]; rw [if_neg (fun e => by rw [e] at h; exact absurd h (by decide))]
theorem pw (k : Nat) (h : k ≤ 6) : (256 : Int) ^ k ≤ 2 ^ 55 := by
  have a : k = 0 ∨ k = 1 ∨ k = 2 ∨ k = 3 ∨ k = 4 ∨ k = 5 ∨ k = 6 := by omega
  rcases a with rfl | rfl | rfl | rfl | rfl | rfl | rfl <;> decide
theorem hi_8 {h : Int64} {r : Int32} {a : Int} (hh : h.toInt = a) (h0 : 0 ≤ a) (h1 : a < 2 ^ 55) (r0 : 0 ≤ r.toInt ∧ r.toInt < 256) : (h <<< (Int32.toInt64 8 &&& 63) ||| r.toInt64).toInt = 256 * a + r.toInt := by
  have e1 : (Int32.toInt64 8 &&& 63) = (8 : Int64) := by decide
  rw [e1]
  have hb : h.toBitVec.toNat = a.toNat := by
    have : h.toInt = h.toBitVec.toInt := rfl
    have hx : h.toBitVec.toInt = a := by rw [← this]; exact hh
    rw [BitVec.toInt_eq_toNat_cond] at hx
    split at hx <;> omega
  have rb : r.toInt64.toBitVec.toNat = r.toInt.toNat := by
    have q : r.toInt64.toInt = r.toInt := Int32.toInt_toInt64 r
    have q : r.toInt64.toBitVec.toInt = r.toInt := q
    rw [BitVec.toInt_eq_toNat_cond] at q
    split at q <;> omega
  have key : (h <<< (8 : Int64) ||| r.toInt64).toBitVec.toNat = 256 * a.toNat + r.toInt.toNat := by
    have e2 : (h <<< (8 : Int64) ||| r.toInt64).toBitVec = (h.toBitVec <<< 8) ||| r.toInt64.toBitVec := by
      rw [Int64.toBitVec_or, Int64.toBitVec_shiftLeft]
      rfl
    rw [e2, BitVec.toNat_or, BitVec.toNat_shiftLeft, hb, rb]
    have e3 : a.toNat <<< 8 % 2 ^ 64 = a.toNat <<< 8 := Nat.mod_eq_of_lt (by rw [Nat.shiftLeft_eq]; omega)
    rw [e3, ← Nat.shiftLeft_add_eq_or_of_lt (by omega : r.toInt.toNat < 2 ^ 8), Nat.shiftLeft_eq]
    omega
  show (h <<< (8 : Int64) ||| r.toInt64).toBitVec.toInt = _
  rw [BitVec.toInt_eq_toNat_cond, key, if_pos (by omega)]
  omega
theorem vl_lt : ∀ l : List Int, alY l → 2 * vlY 256 l + 1 ≤ 256 ^ l.length := by
  intro l
  induction l with
  | nil => intro _; decide
  | cons d l ih =>
    intro ha
    have a := ih (fun z hz => ha z (List.mem_cons_of_mem _ hz))
    have b := ha d List.mem_cons_self
    rw [List.length_cons, Int.pow_succ]
    show 2 * (256 * vlY 256 l + d) + 1 ≤ _
    omega
theorem nm_go {x : TxY} {e : Int} {l : List Int} (h : e < x.2) (hc : isLY (btY x e) ∨ isDY (btY x e)) : nmY x (x.2 - e).toNat e l = nmY x (x.2 - (e + 1)).toNat (e + 1) (btY x e :: l) := by
  rw [fu_s h, nmY, if_pos hc]
theorem nm_no {x : TxY} {e : Int} {l : List Int} (hc : ¬ (isLY (btY x e) ∨ isDY (btY x e))) : nmY x (x.2 - e).toNat e l = (e, l) := by
  by_cases h : e < x.2
  · rw [fu_s h, nmY, if_neg hc]
  · rw [fu_z h]
    rfl
theorem bt_lt {x : TxY} {e : Int} (hc : 0 ≤ btY x e) : e < x.2 := by
  by_cases h : e < x.2
  · exact h
  · rw [bt_out h] at hc
    omega
theorem i32_c {n : Int32} {a : Nat} (h : n.toInt = a) (k : Int32) : (n ≤ k ↔ (a : Int) ≤ k.toInt) ∧ (n < k ↔ (a : Int) < k.toInt) := by
  rw [Int32.le_iff_toInt_le, Int32.lt_iff_toInt_lt, h]
  exact ⟨Iff.rfl, Iff.rfl⟩
theorem i32_p {n : Int32} {a : Int} (h : n.toInt = a) (h0 : 0 ≤ a) (h1 : a ≤ 100000) : (n + 1).toInt = a + 1 := by
  rw [Int32.toInt_add, h]
  have e1 : (1 : Int32).toInt = 1 := rfl
  rw [e1]
  exact Int.bmod_eq_of_le (by omega) (by omega)
theorem pw7 (k : Nat) (h : k ≤ 7) : (256 : Int) ^ k ≤ 2 ^ 56 := by
  have a : k = 0 ∨ k = 1 ∨ k = 2 ∨ k = 3 ∨ k = 4 ∨ k = 5 ∨ k = 6 ∨ k = 7 := by omega
  rcases a with rfl | rfl | rfl | rfl | rfl | rfl | rfl | rfl <;> decide
def Pv_at : UP1 := fun A1 σ => match A1 with
  | [.int k] => True
  | _ => False
def Qv_at : UQ1 := fun A1 σ w τ => match A1 with
  | [.int k] => σ = τ ∧ ∃ r : Int32, w = some (.int r) ∧ ∀ x, TxR σ x → atR r.toInt (btY x k.toInt)
  | _ => False
def Qw_at : UQ1 := fun A1 σ w τ => Pv_at A1 σ → Qv_at A1 σ w τ
set_option maxRecDepth 100000 in
set_option maxHeartbeats 4000000 in
theorem v_at : UMet 3 (Pv_at) (Qv_at) := by
  refine UMet.by Bat [] rfl uc0 ?_
  intro A1 σ hP K hB hW
  unfold Pv_at at hP
  split at hP
  next k =>
    intro n0_
    refine hB _ _ _ _ _ (fun m1 hm1 => ?_)
    dsimp only [ugo, uwp, ust, uct, rfd, Bat, Nat.beq, lv_args, rlk, rs1, rs2, rdl, rky, rcd, rno, rsw, Value.category, List.filter, List.take, List.drop, List.reverse, List.reverseAux, List.cons_append, List.nil_append, Option.toList, Int.toNat, Int.reduceToNat, if_pos, if_neg, reduceIte, ↓reduceIte, Nat.reduceAdd, Nat.reduceEqDiff, Nat.reduceBEq, beq_self_eq_true, Bool.not_true, Bool.not_false, Bool.and_true, Bool.and_false, Bool.true_and, Bool.false_and, gI_sI, gI_sL, gI_sA, gI_sM, gL_sI, gL_sL, gL_sA, gL_sM, aI_sI, aI_sL, aI_sA, aI_sM, aL_sI, aL_sL, aL_sA, aL_sM, Bat_0, Bat_8, Bat_17, Bat_18, oi_0]; try dsimp only
    refine ⟨fun h2 => ?_, fun h2 => ?_⟩
    · refine hB _ _ _ _ _ (fun m3 hm3 => ?_)
      dsimp only [ugo, uwp, ust, uct, rfd, Bat, Nat.beq, lv_args, rlk, rs1, rs2, rdl, rky, rcd, rno, rsw, Value.category, List.filter, List.take, List.drop, List.reverse, List.reverseAux, List.cons_append, List.nil_append, Option.toList, Int.toNat, Int.reduceToNat, if_pos, if_neg, reduceIte, ↓reduceIte, Nat.reduceAdd, Nat.reduceEqDiff, Nat.reduceBEq, beq_self_eq_true, Bool.not_true, Bool.not_false, Bool.and_true, Bool.and_false, Bool.true_and, Bool.false_and, gI_sI, gI_sL, gI_sA, gI_sM, gL_sI, gL_sL, gL_sA, gL_sM, aI_sI, aI_sL, aI_sA, aI_sM, aL_sI, aL_sL, aL_sA, aL_sM, Bat_0, Bat_8, Bat_17, Bat_18, oi_0]; try dsimp only
      refine hB _ _ _ _ _ (fun m4 hm4 => ?_)
      dsimp only [ugo, uwp, ust, uct, rfd, Bat, Nat.beq, lv_args, rlk, rs1, rs2, rdl, rky, rcd, rno, rsw, Value.category, List.filter, List.take, List.drop, List.reverse, List.reverseAux, List.cons_append, List.nil_append, Option.toList, Int.toNat, Int.reduceToNat, if_pos, if_neg, reduceIte, ↓reduceIte, Nat.reduceAdd, Nat.reduceEqDiff, Nat.reduceBEq, beq_self_eq_true, Bool.not_true, Bool.not_false, Bool.and_true, Bool.and_false, Bool.true_and, Bool.false_and, gI_sI, gI_sL, gI_sA, gI_sM, gL_sI, gL_sL, gL_sA, gL_sM, aI_sI, aI_sL, aI_sA, aI_sM, aL_sI, aL_sL, aL_sA, aL_sM, Bat_0, Bat_8, Bat_17, Bat_18, oi_0]; try dsimp only
      unfold Qv_at
      try dsimp only
      exact ⟨rfl, _, rfl, fun x hx => Or.inr ⟨rfl, hx.out (by lia)⟩⟩
    · refine hB _ _ _ _ _ (fun m5 hm5 => ?_)
      dsimp only [ugo, uwp, ust, uct, rfd, Bat, Nat.beq, lv_args, rlk, rs1, rs2, rdl, rky, rcd, rno, rsw, Value.category, List.filter, List.take, List.drop, List.reverse, List.reverseAux, List.cons_append, List.nil_append, Option.toList, Int.toNat, Int.reduceToNat, if_pos, if_neg, reduceIte, ↓reduceIte, Nat.reduceAdd, Nat.reduceEqDiff, Nat.reduceBEq, beq_self_eq_true, Bool.not_true, Bool.not_false, Bool.and_true, Bool.and_false, Bool.true_and, Bool.false_and, gI_sI, gI_sL, gI_sA, gI_sM, gL_sI, gL_sL, gL_sA, gL_sM, aI_sI, aI_sL, aI_sA, aI_sM, aL_sI, aL_sL, aL_sA, aL_sM, Bat_0, Bat_8, Bat_17, Bat_18, oi_0]; try dsimp only
      intro p6
      refine hB _ _ _ _ _ (fun m7 hm7 => ?_)
      dsimp only [ugo, uwp, ust, uct, rfd, Bat, Nat.beq, lv_args, rlk, rs1, rs2, rdl, rky, rcd, rno, rsw, Value.category, List.filter, List.take, List.drop, List.reverse, List.reverseAux, List.cons_append, List.nil_append, Option.toList, Int.toNat, Int.reduceToNat, if_pos, if_neg, reduceIte, ↓reduceIte, Nat.reduceAdd, Nat.reduceEqDiff, Nat.reduceBEq, beq_self_eq_true, Bool.not_true, Bool.not_false, Bool.and_true, Bool.and_false, Bool.true_and, Bool.false_and, gI_sI, gI_sL, gI_sA, gI_sM, gL_sI, gL_sL, gL_sA, gL_sM, aI_sI, aI_sL, aI_sA, aI_sM, aL_sI, aL_sL, aL_sA, aL_sM, Bat_0, Bat_8, Bat_17, Bat_18, oi_0]; try dsimp only
      unfold Qv_at
      try dsimp only
      exact ⟨rfl, _, rfl, fun x hx => Or.inl (hx.at0 (vp_in0 (by assumption)) (by lia))⟩
  next => exact hP.elim
theorem w_at : UMet 3 (fun _ _ => True) Qw_at := fun A1 σ _ w τ h hP => v_at A1 σ hP w τ h
def Pv_isLetter : UP1 := fun A1 σ => match A1 with
  | [.int b] => True
  | _ => False
def Qv_isLetter : UQ1 := fun A1 σ w τ => match A1 with
  | [.int b] => σ = τ ∧ ((w = some (.int 1) ∧ isLY b.toInt) ∨ (w = some (.int 0) ∧ ¬ (isLY b.toInt)))
  | _ => False
def Qw_isLetter : UQ1 := fun A1 σ w τ => Pv_isLetter A1 σ → Qv_isLetter A1 σ w τ
set_option maxRecDepth 100000 in
set_option maxHeartbeats 4000000 in
theorem v_isLetter : UMet 4 (Pv_isLetter) (Qv_isLetter) := by
  refine UMet.by BisLetter [] rfl uc0 ?_
  intro A1 σ hP K hB hW
  unfold Pv_isLetter at hP
  split at hP
  next b =>
    intro n0_
    refine hB _ _ _ _ _ (fun m1 hm1 => ?_)
    dsimp only [ugo, uwp, ust, uct, rfd, BisLetter, Nat.beq, lv_args, rlk, rs1, rs2, rdl, rky, rcd, rno, rsw, Value.category, List.filter, List.take, List.drop, List.reverse, List.reverseAux, List.cons_append, List.nil_append, Option.toList, Int.toNat, Int.reduceToNat, if_pos, if_neg, reduceIte, ↓reduceIte, Nat.reduceAdd, Nat.reduceEqDiff, Nat.reduceBEq, beq_self_eq_true, Bool.not_true, Bool.not_false, Bool.and_true, Bool.and_false, Bool.true_and, Bool.false_and, gI_sI, gI_sL, gI_sA, gI_sM, gL_sI, gL_sL, gL_sA, gL_sM, aI_sI, aI_sL, aI_sA, aI_sM, aL_sI, aL_sL, aL_sA, aL_sM, BisLetter_0, BisLetter_6, BisLetter_12, BisLetter_18, BisLetter_24, BisLetter_28, BisLetter_29, oi_0, oi_1, oi_122, oi_65, oi_90, oi_97]; try dsimp only
    refine ⟨fun h2 => ?_, fun h2 => ?_⟩
    · refine hB _ _ _ _ _ (fun m3 hm3 => ?_)
      dsimp only [ugo, uwp, ust, uct, rfd, BisLetter, Nat.beq, lv_args, rlk, rs1, rs2, rdl, rky, rcd, rno, rsw, Value.category, List.filter, List.take, List.drop, List.reverse, List.reverseAux, List.cons_append, List.nil_append, Option.toList, Int.toNat, Int.reduceToNat, if_pos, if_neg, reduceIte, ↓reduceIte, Nat.reduceAdd, Nat.reduceEqDiff, Nat.reduceBEq, beq_self_eq_true, Bool.not_true, Bool.not_false, Bool.and_true, Bool.and_false, Bool.true_and, Bool.false_and, gI_sI, gI_sL, gI_sA, gI_sM, gL_sI, gL_sL, gL_sA, gL_sM, aI_sI, aI_sL, aI_sA, aI_sM, aL_sI, aL_sL, aL_sA, aL_sM, BisLetter_0, BisLetter_6, BisLetter_12, BisLetter_18, BisLetter_24, BisLetter_28, BisLetter_29, oi_0, oi_1, oi_122, oi_65, oi_90, oi_97]; try dsimp only
      refine ⟨fun h4 => ?_, fun h4 => ?_⟩
      · refine hB _ _ _ _ _ (fun m5 hm5 => ?_)
        dsimp only [ugo, uwp, ust, uct, rfd, BisLetter, Nat.beq, lv_args, rlk, rs1, rs2, rdl, rky, rcd, rno, rsw, Value.category, List.filter, List.take, List.drop, List.reverse, List.reverseAux, List.cons_append, List.nil_append, Option.toList, Int.toNat, Int.reduceToNat, if_pos, if_neg, reduceIte, ↓reduceIte, Nat.reduceAdd, Nat.reduceEqDiff, Nat.reduceBEq, beq_self_eq_true, Bool.not_true, Bool.not_false, Bool.and_true, Bool.and_false, Bool.true_and, Bool.false_and, gI_sI, gI_sL, gI_sA, gI_sM, gL_sI, gL_sL, gL_sA, gL_sM, aI_sI, aI_sL, aI_sA, aI_sM, aL_sI, aL_sL, aL_sA, aL_sM, BisLetter_0, BisLetter_6, BisLetter_12, BisLetter_18, BisLetter_24, BisLetter_28, BisLetter_29, oi_0, oi_1, oi_122, oi_65, oi_90, oi_97]; try dsimp only
        refine hB _ _ _ _ _ (fun m6 hm6 => ?_)
        dsimp only [ugo, uwp, ust, uct, rfd, BisLetter, Nat.beq, lv_args, rlk, rs1, rs2, rdl, rky, rcd, rno, rsw, Value.category, List.filter, List.take, List.drop, List.reverse, List.reverseAux, List.cons_append, List.nil_append, Option.toList, Int.toNat, Int.reduceToNat, if_pos, if_neg, reduceIte, ↓reduceIte, Nat.reduceAdd, Nat.reduceEqDiff, Nat.reduceBEq, beq_self_eq_true, Bool.not_true, Bool.not_false, Bool.and_true, Bool.and_false, Bool.true_and, Bool.false_and, gI_sI, gI_sL, gI_sA, gI_sM, gL_sI, gL_sL, gL_sA, gL_sM, aI_sI, aI_sL, aI_sA, aI_sM, aL_sI, aL_sL, aL_sA, aL_sM, BisLetter_0, BisLetter_6, BisLetter_12, BisLetter_18, BisLetter_24, BisLetter_28, BisLetter_29, oi_0, oi_1, oi_122, oi_65, oi_90, oi_97]; try dsimp only
        unfold Qv_isLetter
        try dsimp only
        exact ⟨rfl, Or.inr ⟨rfl, by (try simp only [Int32.le_iff_toInt_le, Int32.lt_iff_toInt_lt, Int32.not_le, Int32.not_lt] at *); have e97 : (97 : Int32).toInt = 97 := rfl; have e122 : (122 : Int32).toInt = 122 := rfl; have e65 : (65 : Int32).toInt = 65 := rfl; have e90 : (90 : Int32).toInt = 90 := rfl; have e48 : (48 : Int32).toInt = 48 := rfl; have e57 : (57 : Int32).toInt = 57 := rfl; omega⟩⟩
      · refine hB _ _ _ _ _ (fun m7 hm7 => ?_)
        dsimp only [ugo, uwp, ust, uct, rfd, BisLetter, Nat.beq, lv_args, rlk, rs1, rs2, rdl, rky, rcd, rno, rsw, Value.category, List.filter, List.take, List.drop, List.reverse, List.reverseAux, List.cons_append, List.nil_append, Option.toList, Int.toNat, Int.reduceToNat, if_pos, if_neg, reduceIte, ↓reduceIte, Nat.reduceAdd, Nat.reduceEqDiff, Nat.reduceBEq, beq_self_eq_true, Bool.not_true, Bool.not_false, Bool.and_true, Bool.and_false, Bool.true_and, Bool.false_and, gI_sI, gI_sL, gI_sA, gI_sM, gL_sI, gL_sL, gL_sA, gL_sM, aI_sI, aI_sL, aI_sA, aI_sM, aL_sI, aL_sL, aL_sA, aL_sM, BisLetter_0, BisLetter_6, BisLetter_12, BisLetter_18, BisLetter_24, BisLetter_28, BisLetter_29, oi_0, oi_1, oi_122, oi_65, oi_90, oi_97]; try dsimp only
        refine ⟨fun h8 => ?_, fun h8 => ?_⟩
        · refine hB _ _ _ _ _ (fun m9 hm9 => ?_)
          dsimp only [ugo, uwp, ust, uct, rfd, BisLetter, Nat.beq, lv_args, rlk, rs1, rs2, rdl, rky, rcd, rno, rsw, Value.category, List.filter, List.take, List.drop, List.reverse, List.reverseAux, List.cons_append, List.nil_append, Option.toList, Int.toNat, Int.reduceToNat, if_pos, if_neg, reduceIte, ↓reduceIte, Nat.reduceAdd, Nat.reduceEqDiff, Nat.reduceBEq, beq_self_eq_true, Bool.not_true, Bool.not_false, Bool.and_true, Bool.and_false, Bool.true_and, Bool.false_and, gI_sI, gI_sL, gI_sA, gI_sM, gL_sI, gL_sL, gL_sA, gL_sM, aI_sI, aI_sL, aI_sA, aI_sM, aL_sI, aL_sL, aL_sA, aL_sM, BisLetter_0, BisLetter_6, BisLetter_12, BisLetter_18, BisLetter_24, BisLetter_28, BisLetter_29, oi_0, oi_1, oi_122, oi_65, oi_90, oi_97]; try dsimp only
          refine hB _ _ _ _ _ (fun m10 hm10 => ?_)
          dsimp only [ugo, uwp, ust, uct, rfd, BisLetter, Nat.beq, lv_args, rlk, rs1, rs2, rdl, rky, rcd, rno, rsw, Value.category, List.filter, List.take, List.drop, List.reverse, List.reverseAux, List.cons_append, List.nil_append, Option.toList, Int.toNat, Int.reduceToNat, if_pos, if_neg, reduceIte, ↓reduceIte, Nat.reduceAdd, Nat.reduceEqDiff, Nat.reduceBEq, beq_self_eq_true, Bool.not_true, Bool.not_false, Bool.and_true, Bool.and_false, Bool.true_and, Bool.false_and, gI_sI, gI_sL, gI_sA, gI_sM, gL_sI, gL_sL, gL_sA, gL_sM, aI_sI, aI_sL, aI_sA, aI_sM, aL_sI, aL_sL, aL_sA, aL_sM, BisLetter_0, BisLetter_6, BisLetter_12, BisLetter_18, BisLetter_24, BisLetter_28, BisLetter_29, oi_0, oi_1, oi_122, oi_65, oi_90, oi_97]; try dsimp only
          unfold Qv_isLetter
          try dsimp only
          exact ⟨rfl, Or.inr ⟨rfl, by (try simp only [Int32.le_iff_toInt_le, Int32.lt_iff_toInt_lt, Int32.not_le, Int32.not_lt] at *); have e97 : (97 : Int32).toInt = 97 := rfl; have e122 : (122 : Int32).toInt = 122 := rfl; have e65 : (65 : Int32).toInt = 65 := rfl; have e90 : (90 : Int32).toInt = 90 := rfl; have e48 : (48 : Int32).toInt = 48 := rfl; have e57 : (57 : Int32).toInt = 57 := rfl; omega⟩⟩
        · refine hB _ _ _ _ _ (fun m11 hm11 => ?_)
          dsimp only [ugo, uwp, ust, uct, rfd, BisLetter, Nat.beq, lv_args, rlk, rs1, rs2, rdl, rky, rcd, rno, rsw, Value.category, List.filter, List.take, List.drop, List.reverse, List.reverseAux, List.cons_append, List.nil_append, Option.toList, Int.toNat, Int.reduceToNat, if_pos, if_neg, reduceIte, ↓reduceIte, Nat.reduceAdd, Nat.reduceEqDiff, Nat.reduceBEq, beq_self_eq_true, Bool.not_true, Bool.not_false, Bool.and_true, Bool.and_false, Bool.true_and, Bool.false_and, gI_sI, gI_sL, gI_sA, gI_sM, gL_sI, gL_sL, gL_sA, gL_sM, aI_sI, aI_sL, aI_sA, aI_sM, aL_sI, aL_sL, aL_sA, aL_sM, BisLetter_0, BisLetter_6, BisLetter_12, BisLetter_18, BisLetter_24, BisLetter_28, BisLetter_29, oi_0, oi_1, oi_122, oi_65, oi_90, oi_97]; try dsimp only
          refine hB _ _ _ _ _ (fun m12 hm12 => ?_)
          dsimp only [ugo, uwp, ust, uct, rfd, BisLetter, Nat.beq, lv_args, rlk, rs1, rs2, rdl, rky, rcd, rno, rsw, Value.category, List.filter, List.take, List.drop, List.reverse, List.reverseAux, List.cons_append, List.nil_append, Option.toList, Int.toNat, Int.reduceToNat, if_pos, if_neg, reduceIte, ↓reduceIte, Nat.reduceAdd, Nat.reduceEqDiff, Nat.reduceBEq, beq_self_eq_true, Bool.not_true, Bool.not_false, Bool.and_true, Bool.and_false, Bool.true_and, Bool.false_and, gI_sI, gI_sL, gI_sA, gI_sM, gL_sI, gL_sL, gL_sA, gL_sM, aI_sI, aI_sL, aI_sA, aI_sM, aL_sI, aL_sL, aL_sA, aL_sM, BisLetter_0, BisLetter_6, BisLetter_12, BisLetter_18, BisLetter_24, BisLetter_28, BisLetter_29, oi_0, oi_1, oi_122, oi_65, oi_90, oi_97]; try dsimp only
          unfold Qv_isLetter
          try dsimp only
          exact ⟨rfl, Or.inl ⟨rfl, by (try simp only [Int32.le_iff_toInt_le, Int32.lt_iff_toInt_lt, Int32.not_le, Int32.not_lt] at *); have e97 : (97 : Int32).toInt = 97 := rfl; have e122 : (122 : Int32).toInt = 122 := rfl; have e65 : (65 : Int32).toInt = 65 := rfl; have e90 : (90 : Int32).toInt = 90 := rfl; have e48 : (48 : Int32).toInt = 48 := rfl; have e57 : (57 : Int32).toInt = 57 := rfl; omega⟩⟩
    · refine hB _ _ _ _ _ (fun m13 hm13 => ?_)
      dsimp only [ugo, uwp, ust, uct, rfd, BisLetter, Nat.beq, lv_args, rlk, rs1, rs2, rdl, rky, rcd, rno, rsw, Value.category, List.filter, List.take, List.drop, List.reverse, List.reverseAux, List.cons_append, List.nil_append, Option.toList, Int.toNat, Int.reduceToNat, if_pos, if_neg, reduceIte, ↓reduceIte, Nat.reduceAdd, Nat.reduceEqDiff, Nat.reduceBEq, beq_self_eq_true, Bool.not_true, Bool.not_false, Bool.and_true, Bool.and_false, Bool.true_and, Bool.false_and, gI_sI, gI_sL, gI_sA, gI_sM, gL_sI, gL_sL, gL_sA, gL_sM, aI_sI, aI_sL, aI_sA, aI_sM, aL_sI, aL_sL, aL_sA, aL_sM, BisLetter_0, BisLetter_6, BisLetter_12, BisLetter_18, BisLetter_24, BisLetter_28, BisLetter_29, oi_0, oi_1, oi_122, oi_65, oi_90, oi_97]; try dsimp only
      refine ⟨fun h14 => ?_, fun h14 => ?_⟩
      · refine hB _ _ _ _ _ (fun m15 hm15 => ?_)
        dsimp only [ugo, uwp, ust, uct, rfd, BisLetter, Nat.beq, lv_args, rlk, rs1, rs2, rdl, rky, rcd, rno, rsw, Value.category, List.filter, List.take, List.drop, List.reverse, List.reverseAux, List.cons_append, List.nil_append, Option.toList, Int.toNat, Int.reduceToNat, if_pos, if_neg, reduceIte, ↓reduceIte, Nat.reduceAdd, Nat.reduceEqDiff, Nat.reduceBEq, beq_self_eq_true, Bool.not_true, Bool.not_false, Bool.and_true, Bool.and_false, Bool.true_and, Bool.false_and, gI_sI, gI_sL, gI_sA, gI_sM, gL_sI, gL_sL, gL_sA, gL_sM, aI_sI, aI_sL, aI_sA, aI_sM, aL_sI, aL_sL, aL_sA, aL_sM, BisLetter_0, BisLetter_6, BisLetter_12, BisLetter_18, BisLetter_24, BisLetter_28, BisLetter_29, oi_0, oi_1, oi_122, oi_65, oi_90, oi_97]; try dsimp only
        refine hB _ _ _ _ _ (fun m16 hm16 => ?_)
        dsimp only [ugo, uwp, ust, uct, rfd, BisLetter, Nat.beq, lv_args, rlk, rs1, rs2, rdl, rky, rcd, rno, rsw, Value.category, List.filter, List.take, List.drop, List.reverse, List.reverseAux, List.cons_append, List.nil_append, Option.toList, Int.toNat, Int.reduceToNat, if_pos, if_neg, reduceIte, ↓reduceIte, Nat.reduceAdd, Nat.reduceEqDiff, Nat.reduceBEq, beq_self_eq_true, Bool.not_true, Bool.not_false, Bool.and_true, Bool.and_false, Bool.true_and, Bool.false_and, gI_sI, gI_sL, gI_sA, gI_sM, gL_sI, gL_sL, gL_sA, gL_sM, aI_sI, aI_sL, aI_sA, aI_sM, aL_sI, aL_sL, aL_sA, aL_sM, BisLetter_0, BisLetter_6, BisLetter_12, BisLetter_18, BisLetter_24, BisLetter_28, BisLetter_29, oi_0, oi_1, oi_122, oi_65, oi_90, oi_97]; try dsimp only
        unfold Qv_isLetter
        try dsimp only
        exact ⟨rfl, Or.inl ⟨rfl, by (try simp only [Int32.le_iff_toInt_le, Int32.lt_iff_toInt_lt, Int32.not_le, Int32.not_lt] at *); have e97 : (97 : Int32).toInt = 97 := rfl; have e122 : (122 : Int32).toInt = 122 := rfl; have e65 : (65 : Int32).toInt = 65 := rfl; have e90 : (90 : Int32).toInt = 90 := rfl; have e48 : (48 : Int32).toInt = 48 := rfl; have e57 : (57 : Int32).toInt = 57 := rfl; omega⟩⟩
      · refine hB _ _ _ _ _ (fun m17 hm17 => ?_)
        dsimp only [ugo, uwp, ust, uct, rfd, BisLetter, Nat.beq, lv_args, rlk, rs1, rs2, rdl, rky, rcd, rno, rsw, Value.category, List.filter, List.take, List.drop, List.reverse, List.reverseAux, List.cons_append, List.nil_append, Option.toList, Int.toNat, Int.reduceToNat, if_pos, if_neg, reduceIte, ↓reduceIte, Nat.reduceAdd, Nat.reduceEqDiff, Nat.reduceBEq, beq_self_eq_true, Bool.not_true, Bool.not_false, Bool.and_true, Bool.and_false, Bool.true_and, Bool.false_and, gI_sI, gI_sL, gI_sA, gI_sM, gL_sI, gL_sL, gL_sA, gL_sM, aI_sI, aI_sL, aI_sA, aI_sM, aL_sI, aL_sL, aL_sA, aL_sM, BisLetter_0, BisLetter_6, BisLetter_12, BisLetter_18, BisLetter_24, BisLetter_28, BisLetter_29, oi_0, oi_1, oi_122, oi_65, oi_90, oi_97]; try dsimp only
        refine ⟨fun h18 => ?_, fun h18 => ?_⟩
        · refine hB _ _ _ _ _ (fun m19 hm19 => ?_)
          dsimp only [ugo, uwp, ust, uct, rfd, BisLetter, Nat.beq, lv_args, rlk, rs1, rs2, rdl, rky, rcd, rno, rsw, Value.category, List.filter, List.take, List.drop, List.reverse, List.reverseAux, List.cons_append, List.nil_append, Option.toList, Int.toNat, Int.reduceToNat, if_pos, if_neg, reduceIte, ↓reduceIte, Nat.reduceAdd, Nat.reduceEqDiff, Nat.reduceBEq, beq_self_eq_true, Bool.not_true, Bool.not_false, Bool.and_true, Bool.and_false, Bool.true_and, Bool.false_and, gI_sI, gI_sL, gI_sA, gI_sM, gL_sI, gL_sL, gL_sA, gL_sM, aI_sI, aI_sL, aI_sA, aI_sM, aL_sI, aL_sL, aL_sA, aL_sM, BisLetter_0, BisLetter_6, BisLetter_12, BisLetter_18, BisLetter_24, BisLetter_28, BisLetter_29, oi_0, oi_1, oi_122, oi_65, oi_90, oi_97]; try dsimp only
          refine hB _ _ _ _ _ (fun m20 hm20 => ?_)
          dsimp only [ugo, uwp, ust, uct, rfd, BisLetter, Nat.beq, lv_args, rlk, rs1, rs2, rdl, rky, rcd, rno, rsw, Value.category, List.filter, List.take, List.drop, List.reverse, List.reverseAux, List.cons_append, List.nil_append, Option.toList, Int.toNat, Int.reduceToNat, if_pos, if_neg, reduceIte, ↓reduceIte, Nat.reduceAdd, Nat.reduceEqDiff, Nat.reduceBEq, beq_self_eq_true, Bool.not_true, Bool.not_false, Bool.and_true, Bool.and_false, Bool.true_and, Bool.false_and, gI_sI, gI_sL, gI_sA, gI_sM, gL_sI, gL_sL, gL_sA, gL_sM, aI_sI, aI_sL, aI_sA, aI_sM, aL_sI, aL_sL, aL_sA, aL_sM, BisLetter_0, BisLetter_6, BisLetter_12, BisLetter_18, BisLetter_24, BisLetter_28, BisLetter_29, oi_0, oi_1, oi_122, oi_65, oi_90, oi_97]; try dsimp only
          unfold Qv_isLetter
          try dsimp only
          exact ⟨rfl, Or.inr ⟨rfl, by (try simp only [Int32.le_iff_toInt_le, Int32.lt_iff_toInt_lt, Int32.not_le, Int32.not_lt] at *); have e97 : (97 : Int32).toInt = 97 := rfl; have e122 : (122 : Int32).toInt = 122 := rfl; have e65 : (65 : Int32).toInt = 65 := rfl; have e90 : (90 : Int32).toInt = 90 := rfl; have e48 : (48 : Int32).toInt = 48 := rfl; have e57 : (57 : Int32).toInt = 57 := rfl; omega⟩⟩
        · refine hB _ _ _ _ _ (fun m21 hm21 => ?_)
          dsimp only [ugo, uwp, ust, uct, rfd, BisLetter, Nat.beq, lv_args, rlk, rs1, rs2, rdl, rky, rcd, rno, rsw, Value.category, List.filter, List.take, List.drop, List.reverse, List.reverseAux, List.cons_append, List.nil_append, Option.toList, Int.toNat, Int.reduceToNat, if_pos, if_neg, reduceIte, ↓reduceIte, Nat.reduceAdd, Nat.reduceEqDiff, Nat.reduceBEq, beq_self_eq_true, Bool.not_true, Bool.not_false, Bool.and_true, Bool.and_false, Bool.true_and, Bool.false_and, gI_sI, gI_sL, gI_sA, gI_sM, gL_sI, gL_sL, gL_sA, gL_sM, aI_sI, aI_sL, aI_sA, aI_sM, aL_sI, aL_sL, aL_sA, aL_sM, BisLetter_0, BisLetter_6, BisLetter_12, BisLetter_18, BisLetter_24, BisLetter_28, BisLetter_29, oi_0, oi_1, oi_122, oi_65, oi_90, oi_97]; try dsimp only
          refine ⟨fun h22 => ?_, fun h22 => ?_⟩
          · refine hB _ _ _ _ _ (fun m23 hm23 => ?_)
            dsimp only [ugo, uwp, ust, uct, rfd, BisLetter, Nat.beq, lv_args, rlk, rs1, rs2, rdl, rky, rcd, rno, rsw, Value.category, List.filter, List.take, List.drop, List.reverse, List.reverseAux, List.cons_append, List.nil_append, Option.toList, Int.toNat, Int.reduceToNat, if_pos, if_neg, reduceIte, ↓reduceIte, Nat.reduceAdd, Nat.reduceEqDiff, Nat.reduceBEq, beq_self_eq_true, Bool.not_true, Bool.not_false, Bool.and_true, Bool.and_false, Bool.true_and, Bool.false_and, gI_sI, gI_sL, gI_sA, gI_sM, gL_sI, gL_sL, gL_sA, gL_sM, aI_sI, aI_sL, aI_sA, aI_sM, aL_sI, aL_sL, aL_sA, aL_sM, BisLetter_0, BisLetter_6, BisLetter_12, BisLetter_18, BisLetter_24, BisLetter_28, BisLetter_29, oi_0, oi_1, oi_122, oi_65, oi_90, oi_97]; try dsimp only
            refine hB _ _ _ _ _ (fun m24 hm24 => ?_)
            dsimp only [ugo, uwp, ust, uct, rfd, BisLetter, Nat.beq, lv_args, rlk, rs1, rs2, rdl, rky, rcd, rno, rsw, Value.category, List.filter, List.take, List.drop, List.reverse, List.reverseAux, List.cons_append, List.nil_append, Option.toList, Int.toNat, Int.reduceToNat, if_pos, if_neg, reduceIte, ↓reduceIte, Nat.reduceAdd, Nat.reduceEqDiff, Nat.reduceBEq, beq_self_eq_true, Bool.not_true, Bool.not_false, Bool.and_true, Bool.and_false, Bool.true_and, Bool.false_and, gI_sI, gI_sL, gI_sA, gI_sM, gL_sI, gL_sL, gL_sA, gL_sM, aI_sI, aI_sL, aI_sA, aI_sM, aL_sI, aL_sL, aL_sA, aL_sM, BisLetter_0, BisLetter_6, BisLetter_12, BisLetter_18, BisLetter_24, BisLetter_28, BisLetter_29, oi_0, oi_1, oi_122, oi_65, oi_90, oi_97]; try dsimp only
            unfold Qv_isLetter
            try dsimp only
            exact ⟨rfl, Or.inr ⟨rfl, by (try simp only [Int32.le_iff_toInt_le, Int32.lt_iff_toInt_lt, Int32.not_le, Int32.not_lt] at *); have e97 : (97 : Int32).toInt = 97 := rfl; have e122 : (122 : Int32).toInt = 122 := rfl; have e65 : (65 : Int32).toInt = 65 := rfl; have e90 : (90 : Int32).toInt = 90 := rfl; have e48 : (48 : Int32).toInt = 48 := rfl; have e57 : (57 : Int32).toInt = 57 := rfl; omega⟩⟩
          · refine hB _ _ _ _ _ (fun m25 hm25 => ?_)
            dsimp only [ugo, uwp, ust, uct, rfd, BisLetter, Nat.beq, lv_args, rlk, rs1, rs2, rdl, rky, rcd, rno, rsw, Value.category, List.filter, List.take, List.drop, List.reverse, List.reverseAux, List.cons_append, List.nil_append, Option.toList, Int.toNat, Int.reduceToNat, if_pos, if_neg, reduceIte, ↓reduceIte, Nat.reduceAdd, Nat.reduceEqDiff, Nat.reduceBEq, beq_self_eq_true, Bool.not_true, Bool.not_false, Bool.and_true, Bool.and_false, Bool.true_and, Bool.false_and, gI_sI, gI_sL, gI_sA, gI_sM, gL_sI, gL_sL, gL_sA, gL_sM, aI_sI, aI_sL, aI_sA, aI_sM, aL_sI, aL_sL, aL_sA, aL_sM, BisLetter_0, BisLetter_6, BisLetter_12, BisLetter_18, BisLetter_24, BisLetter_28, BisLetter_29, oi_0, oi_1, oi_122, oi_65, oi_90, oi_97]; try dsimp only
            refine hB _ _ _ _ _ (fun m26 hm26 => ?_)
            dsimp only [ugo, uwp, ust, uct, rfd, BisLetter, Nat.beq, lv_args, rlk, rs1, rs2, rdl, rky, rcd, rno, rsw, Value.category, List.filter, List.take, List.drop, List.reverse, List.reverseAux, List.cons_append, List.nil_append, Option.toList, Int.toNat, Int.reduceToNat, if_pos, if_neg, reduceIte, ↓reduceIte, Nat.reduceAdd, Nat.reduceEqDiff, Nat.reduceBEq, beq_self_eq_true, Bool.not_true, Bool.not_false, Bool.and_true, Bool.and_false, Bool.true_and, Bool.false_and, gI_sI, gI_sL, gI_sA, gI_sM, gL_sI, gL_sL, gL_sA, gL_sM, aI_sI, aI_sL, aI_sA, aI_sM, aL_sI, aL_sL, aL_sA, aL_sM, BisLetter_0, BisLetter_6, BisLetter_12, BisLetter_18, BisLetter_24, BisLetter_28, BisLetter_29, oi_0, oi_1, oi_122, oi_65, oi_90, oi_97]; try dsimp only
            unfold Qv_isLetter
            try dsimp only
            exact ⟨rfl, Or.inl ⟨rfl, by (try simp only [Int32.le_iff_toInt_le, Int32.lt_iff_toInt_lt, Int32.not_le, Int32.not_lt] at *); have e97 : (97 : Int32).toInt = 97 := rfl; have e122 : (122 : Int32).toInt = 122 := rfl; have e65 : (65 : Int32).toInt = 65 := rfl; have e90 : (90 : Int32).toInt = 90 := rfl; have e48 : (48 : Int32).toInt = 48 := rfl; have e57 : (57 : Int32).toInt = 57 := rfl; omega⟩⟩
  next => exact hP.elim
theorem w_isLetter : UMet 4 (fun _ _ => True) Qw_isLetter := fun A1 σ _ w τ h hP => v_isLetter A1 σ hP w τ h
def Pv_isDigit : UP1 := fun A1 σ => match A1 with
  | [.int b] => True
  | _ => False
def Qv_isDigit : UQ1 := fun A1 σ w τ => match A1 with
  | [.int b] => σ = τ ∧ ((w = some (.int 1) ∧ isDY b.toInt) ∨ (w = some (.int 0) ∧ ¬ (isDY b.toInt)))
  | _ => False
def Qw_isDigit : UQ1 := fun A1 σ w τ => Pv_isDigit A1 σ → Qv_isDigit A1 σ w τ
set_option maxRecDepth 100000 in
set_option maxHeartbeats 4000000 in
theorem v_isDigit : UMet 5 (Pv_isDigit) (Qv_isDigit) := by
  refine UMet.by BisDigit [] rfl uc0 ?_
  intro A1 σ hP K hB hW
  unfold Pv_isDigit at hP
  split at hP
  next b =>
    intro n0_
    refine hB _ _ _ _ _ (fun m1 hm1 => ?_)
    dsimp only [ugo, uwp, ust, uct, rfd, BisDigit, Nat.beq, lv_args, rlk, rs1, rs2, rdl, rky, rcd, rno, rsw, Value.category, List.filter, List.take, List.drop, List.reverse, List.reverseAux, List.cons_append, List.nil_append, Option.toList, Int.toNat, Int.reduceToNat, if_pos, if_neg, reduceIte, ↓reduceIte, Nat.reduceAdd, Nat.reduceEqDiff, Nat.reduceBEq, beq_self_eq_true, Bool.not_true, Bool.not_false, Bool.and_true, Bool.and_false, Bool.true_and, Bool.false_and, gI_sI, gI_sL, gI_sA, gI_sM, gL_sI, gL_sL, gL_sA, gL_sM, aI_sI, aI_sL, aI_sA, aI_sM, aL_sI, aL_sL, aL_sA, aL_sM, BisDigit_0, BisDigit_6, BisDigit_12, BisDigit_16, BisDigit_17, oi_0, oi_1, oi_48, oi_57]; try dsimp only
    refine ⟨fun h2 => ?_, fun h2 => ?_⟩
    · refine hB _ _ _ _ _ (fun m3 hm3 => ?_)
      dsimp only [ugo, uwp, ust, uct, rfd, BisDigit, Nat.beq, lv_args, rlk, rs1, rs2, rdl, rky, rcd, rno, rsw, Value.category, List.filter, List.take, List.drop, List.reverse, List.reverseAux, List.cons_append, List.nil_append, Option.toList, Int.toNat, Int.reduceToNat, if_pos, if_neg, reduceIte, ↓reduceIte, Nat.reduceAdd, Nat.reduceEqDiff, Nat.reduceBEq, beq_self_eq_true, Bool.not_true, Bool.not_false, Bool.and_true, Bool.and_false, Bool.true_and, Bool.false_and, gI_sI, gI_sL, gI_sA, gI_sM, gL_sI, gL_sL, gL_sA, gL_sM, aI_sI, aI_sL, aI_sA, aI_sM, aL_sI, aL_sL, aL_sA, aL_sM, BisDigit_0, BisDigit_6, BisDigit_12, BisDigit_16, BisDigit_17, oi_0, oi_1, oi_48, oi_57]; try dsimp only
      refine hB _ _ _ _ _ (fun m4 hm4 => ?_)
      dsimp only [ugo, uwp, ust, uct, rfd, BisDigit, Nat.beq, lv_args, rlk, rs1, rs2, rdl, rky, rcd, rno, rsw, Value.category, List.filter, List.take, List.drop, List.reverse, List.reverseAux, List.cons_append, List.nil_append, Option.toList, Int.toNat, Int.reduceToNat, if_pos, if_neg, reduceIte, ↓reduceIte, Nat.reduceAdd, Nat.reduceEqDiff, Nat.reduceBEq, beq_self_eq_true, Bool.not_true, Bool.not_false, Bool.and_true, Bool.and_false, Bool.true_and, Bool.false_and, gI_sI, gI_sL, gI_sA, gI_sM, gL_sI, gL_sL, gL_sA, gL_sM, aI_sI, aI_sL, aI_sA, aI_sM, aL_sI, aL_sL, aL_sA, aL_sM, BisDigit_0, BisDigit_6, BisDigit_12, BisDigit_16, BisDigit_17, oi_0, oi_1, oi_48, oi_57]; try dsimp only
      unfold Qv_isDigit
      try dsimp only
      exact ⟨rfl, Or.inr ⟨rfl, by (try simp only [Int32.le_iff_toInt_le, Int32.lt_iff_toInt_lt, Int32.not_le, Int32.not_lt] at *); have e97 : (97 : Int32).toInt = 97 := rfl; have e122 : (122 : Int32).toInt = 122 := rfl; have e65 : (65 : Int32).toInt = 65 := rfl; have e90 : (90 : Int32).toInt = 90 := rfl; have e48 : (48 : Int32).toInt = 48 := rfl; have e57 : (57 : Int32).toInt = 57 := rfl; omega⟩⟩
    · refine hB _ _ _ _ _ (fun m5 hm5 => ?_)
      dsimp only [ugo, uwp, ust, uct, rfd, BisDigit, Nat.beq, lv_args, rlk, rs1, rs2, rdl, rky, rcd, rno, rsw, Value.category, List.filter, List.take, List.drop, List.reverse, List.reverseAux, List.cons_append, List.nil_append, Option.toList, Int.toNat, Int.reduceToNat, if_pos, if_neg, reduceIte, ↓reduceIte, Nat.reduceAdd, Nat.reduceEqDiff, Nat.reduceBEq, beq_self_eq_true, Bool.not_true, Bool.not_false, Bool.and_true, Bool.and_false, Bool.true_and, Bool.false_and, gI_sI, gI_sL, gI_sA, gI_sM, gL_sI, gL_sL, gL_sA, gL_sM, aI_sI, aI_sL, aI_sA, aI_sM, aL_sI, aL_sL, aL_sA, aL_sM, BisDigit_0, BisDigit_6, BisDigit_12, BisDigit_16, BisDigit_17, oi_0, oi_1, oi_48, oi_57]; try dsimp only
      refine ⟨fun h6 => ?_, fun h6 => ?_⟩
      · refine hB _ _ _ _ _ (fun m7 hm7 => ?_)
        dsimp only [ugo, uwp, ust, uct, rfd, BisDigit, Nat.beq, lv_args, rlk, rs1, rs2, rdl, rky, rcd, rno, rsw, Value.category, List.filter, List.take, List.drop, List.reverse, List.reverseAux, List.cons_append, List.nil_append, Option.toList, Int.toNat, Int.reduceToNat, if_pos, if_neg, reduceIte, ↓reduceIte, Nat.reduceAdd, Nat.reduceEqDiff, Nat.reduceBEq, beq_self_eq_true, Bool.not_true, Bool.not_false, Bool.and_true, Bool.and_false, Bool.true_and, Bool.false_and, gI_sI, gI_sL, gI_sA, gI_sM, gL_sI, gL_sL, gL_sA, gL_sM, aI_sI, aI_sL, aI_sA, aI_sM, aL_sI, aL_sL, aL_sA, aL_sM, BisDigit_0, BisDigit_6, BisDigit_12, BisDigit_16, BisDigit_17, oi_0, oi_1, oi_48, oi_57]; try dsimp only
        refine hB _ _ _ _ _ (fun m8 hm8 => ?_)
        dsimp only [ugo, uwp, ust, uct, rfd, BisDigit, Nat.beq, lv_args, rlk, rs1, rs2, rdl, rky, rcd, rno, rsw, Value.category, List.filter, List.take, List.drop, List.reverse, List.reverseAux, List.cons_append, List.nil_append, Option.toList, Int.toNat, Int.reduceToNat, if_pos, if_neg, reduceIte, ↓reduceIte, Nat.reduceAdd, Nat.reduceEqDiff, Nat.reduceBEq, beq_self_eq_true, Bool.not_true, Bool.not_false, Bool.and_true, Bool.and_false, Bool.true_and, Bool.false_and, gI_sI, gI_sL, gI_sA, gI_sM, gL_sI, gL_sL, gL_sA, gL_sM, aI_sI, aI_sL, aI_sA, aI_sM, aL_sI, aL_sL, aL_sA, aL_sM, BisDigit_0, BisDigit_6, BisDigit_12, BisDigit_16, BisDigit_17, oi_0, oi_1, oi_48, oi_57]; try dsimp only
        unfold Qv_isDigit
        try dsimp only
        exact ⟨rfl, Or.inr ⟨rfl, by (try simp only [Int32.le_iff_toInt_le, Int32.lt_iff_toInt_lt, Int32.not_le, Int32.not_lt] at *); have e97 : (97 : Int32).toInt = 97 := rfl; have e122 : (122 : Int32).toInt = 122 := rfl; have e65 : (65 : Int32).toInt = 65 := rfl; have e90 : (90 : Int32).toInt = 90 := rfl; have e48 : (48 : Int32).toInt = 48 := rfl; have e57 : (57 : Int32).toInt = 57 := rfl; omega⟩⟩
      · refine hB _ _ _ _ _ (fun m9 hm9 => ?_)
        dsimp only [ugo, uwp, ust, uct, rfd, BisDigit, Nat.beq, lv_args, rlk, rs1, rs2, rdl, rky, rcd, rno, rsw, Value.category, List.filter, List.take, List.drop, List.reverse, List.reverseAux, List.cons_append, List.nil_append, Option.toList, Int.toNat, Int.reduceToNat, if_pos, if_neg, reduceIte, ↓reduceIte, Nat.reduceAdd, Nat.reduceEqDiff, Nat.reduceBEq, beq_self_eq_true, Bool.not_true, Bool.not_false, Bool.and_true, Bool.and_false, Bool.true_and, Bool.false_and, gI_sI, gI_sL, gI_sA, gI_sM, gL_sI, gL_sL, gL_sA, gL_sM, aI_sI, aI_sL, aI_sA, aI_sM, aL_sI, aL_sL, aL_sA, aL_sM, BisDigit_0, BisDigit_6, BisDigit_12, BisDigit_16, BisDigit_17, oi_0, oi_1, oi_48, oi_57]; try dsimp only
        refine hB _ _ _ _ _ (fun m10 hm10 => ?_)
        dsimp only [ugo, uwp, ust, uct, rfd, BisDigit, Nat.beq, lv_args, rlk, rs1, rs2, rdl, rky, rcd, rno, rsw, Value.category, List.filter, List.take, List.drop, List.reverse, List.reverseAux, List.cons_append, List.nil_append, Option.toList, Int.toNat, Int.reduceToNat, if_pos, if_neg, reduceIte, ↓reduceIte, Nat.reduceAdd, Nat.reduceEqDiff, Nat.reduceBEq, beq_self_eq_true, Bool.not_true, Bool.not_false, Bool.and_true, Bool.and_false, Bool.true_and, Bool.false_and, gI_sI, gI_sL, gI_sA, gI_sM, gL_sI, gL_sL, gL_sA, gL_sM, aI_sI, aI_sL, aI_sA, aI_sM, aL_sI, aL_sL, aL_sA, aL_sM, BisDigit_0, BisDigit_6, BisDigit_12, BisDigit_16, BisDigit_17, oi_0, oi_1, oi_48, oi_57]; try dsimp only
        unfold Qv_isDigit
        try dsimp only
        exact ⟨rfl, Or.inl ⟨rfl, by (try simp only [Int32.le_iff_toInt_le, Int32.lt_iff_toInt_lt, Int32.not_le, Int32.not_lt] at *); have e97 : (97 : Int32).toInt = 97 := rfl; have e122 : (122 : Int32).toInt = 122 := rfl; have e65 : (65 : Int32).toInt = 65 := rfl; have e90 : (90 : Int32).toInt = 90 := rfl; have e48 : (48 : Int32).toInt = 48 := rfl; have e57 : (57 : Int32).toInt = 57 := rfl; omega⟩⟩
  next => exact hP.elim
theorem w_isDigit : UMet 5 (fun _ _ => True) Qw_isDigit := fun A1 σ _ w τ h hP => v_isDigit A1 σ hP w τ h
def Pv_wordOf : UP1 := fun A1 σ => match A1 with
  | [.long v] => True
  | _ => False
def Qv_wordOf : UQ1 := fun A1 σ w τ => match A1 with
  | [.long v] => σ = τ ∧ w = some (.int (woR v))
  | _ => False
def Qw_wordOf : UQ1 := fun A1 σ w τ => Pv_wordOf A1 σ → Qv_wordOf A1 σ w τ
set_option maxRecDepth 100000 in
set_option maxHeartbeats 4000000 in
theorem v_wordOf : UMet 8 (Pv_wordOf) (Qv_wordOf) := by
  refine UMet.by BwordOf [] rfl uc0 ?_
  intro A1 σ hP K hB hW
  unfold Pv_wordOf at hP
  split at hP
  next v =>
    intro n0_
    refine hB _ _ _ _ _ (fun m1 hm1 => ?_)
    dsimp only [ugo, uwp, ust, uct, rfd, BwordOf, Nat.beq, lv_args, rlk, rs1, rs2, rdl, rky, rcd, rno, rsw, Value.category, List.filter, List.take, List.drop, List.reverse, List.reverseAux, List.cons_append, List.nil_append, Option.toList, Int.toNat, Int.reduceToNat, if_pos, if_neg, reduceIte, ↓reduceIte, Nat.reduceAdd, Nat.reduceEqDiff, Nat.reduceBEq, beq_self_eq_true, Bool.not_true, Bool.not_false, Bool.and_true, Bool.and_false, Bool.true_and, Bool.false_and, gI_sI, gI_sL, gI_sA, gI_sM, gL_sI, gL_sL, gL_sA, gL_sM, aI_sI, aI_sL, aI_sA, aI_sM, aL_sI, aL_sL, aL_sA, aL_sM, BwordOf_0, BwordOf_8, BwordOf_10, BwordOf_18, BwordOf_20, BwordOf_28, BwordOf_30, BwordOf_38, BwordOf_40, BwordOf_48, BwordOf_50, BwordOf_58, BwordOf_60, BwordOf_68, BwordOf_71, BwordOf_79, BwordOf_82, BwordOf_90, BwordOf_93, BwordOf_101, BwordOf_104, BwordOf_112, BwordOf_115, BwordOf_123, BwordOf_126, BwordOf_134, BwordOf_137, BwordOf_145, BwordOf_148, BwordOf_156, BwordOf_159, BwordOf_167, BwordOf_170, BwordOf_178, BwordOf_181, BwordOf_189, BwordOf_192, BwordOf_200, BwordOf_203, BwordOf_211, BwordOf_214, BwordOf_222, BwordOf_225, BwordOf_233, BwordOf_236, BwordOf_244, BwordOf_247, BwordOf_255, BwordOf_260, BwordOf_262, oi_0, oi_1, oi_10, oi_11, oi_12, oi_13, oi_14, oi_15, oi_16, oi_17, oi_18, oi_19, oi_2, oi_20, oi_21, oi_22, oi_23, oi_3, oi_4, oi_5, oi_6, oi_7, oi_8, oi_9, oi_m2]; try dsimp only
    refine ⟨fun h2 => ?_, fun h2 => ?_⟩
    · refine hB _ _ _ _ _ (fun m3 hm3 => ?_)
      dsimp only [ugo, uwp, ust, uct, rfd, BwordOf, Nat.beq, lv_args, rlk, rs1, rs2, rdl, rky, rcd, rno, rsw, Value.category, List.filter, List.take, List.drop, List.reverse, List.reverseAux, List.cons_append, List.nil_append, Option.toList, Int.toNat, Int.reduceToNat, if_pos, if_neg, reduceIte, ↓reduceIte, Nat.reduceAdd, Nat.reduceEqDiff, Nat.reduceBEq, beq_self_eq_true, Bool.not_true, Bool.not_false, Bool.and_true, Bool.and_false, Bool.true_and, Bool.false_and, gI_sI, gI_sL, gI_sA, gI_sM, gL_sI, gL_sL, gL_sA, gL_sM, aI_sI, aI_sL, aI_sA, aI_sM, aL_sI, aL_sL, aL_sA, aL_sM, BwordOf_0, BwordOf_8, BwordOf_10, BwordOf_18, BwordOf_20, BwordOf_28, BwordOf_30, BwordOf_38, BwordOf_40, BwordOf_48, BwordOf_50, BwordOf_58, BwordOf_60, BwordOf_68, BwordOf_71, BwordOf_79, BwordOf_82, BwordOf_90, BwordOf_93, BwordOf_101, BwordOf_104, BwordOf_112, BwordOf_115, BwordOf_123, BwordOf_126, BwordOf_134, BwordOf_137, BwordOf_145, BwordOf_148, BwordOf_156, BwordOf_159, BwordOf_167, BwordOf_170, BwordOf_178, BwordOf_181, BwordOf_189, BwordOf_192, BwordOf_200, BwordOf_203, BwordOf_211, BwordOf_214, BwordOf_222, BwordOf_225, BwordOf_233, BwordOf_236, BwordOf_244, BwordOf_247, BwordOf_255, BwordOf_260, BwordOf_262, oi_0, oi_1, oi_10, oi_11, oi_12, oi_13, oi_14, oi_15, oi_16, oi_17, oi_18, oi_19, oi_2, oi_20, oi_21, oi_22, oi_23, oi_3, oi_4, oi_5, oi_6, oi_7, oi_8, oi_9, oi_m2]; try dsimp only
      refine ⟨fun h4 => ?_, fun h4 => ?_⟩
      · refine hB _ _ _ _ _ (fun m5 hm5 => ?_)
        dsimp only [ugo, uwp, ust, uct, rfd, BwordOf, Nat.beq, lv_args, rlk, rs1, rs2, rdl, rky, rcd, rno, rsw, Value.category, List.filter, List.take, List.drop, List.reverse, List.reverseAux, List.cons_append, List.nil_append, Option.toList, Int.toNat, Int.reduceToNat, if_pos, if_neg, reduceIte, ↓reduceIte, Nat.reduceAdd, Nat.reduceEqDiff, Nat.reduceBEq, beq_self_eq_true, Bool.not_true, Bool.not_false, Bool.and_true, Bool.and_false, Bool.true_and, Bool.false_and, gI_sI, gI_sL, gI_sA, gI_sM, gL_sI, gL_sL, gL_sA, gL_sM, aI_sI, aI_sL, aI_sA, aI_sM, aL_sI, aL_sL, aL_sA, aL_sM, BwordOf_0, BwordOf_8, BwordOf_10, BwordOf_18, BwordOf_20, BwordOf_28, BwordOf_30, BwordOf_38, BwordOf_40, BwordOf_48, BwordOf_50, BwordOf_58, BwordOf_60, BwordOf_68, BwordOf_71, BwordOf_79, BwordOf_82, BwordOf_90, BwordOf_93, BwordOf_101, BwordOf_104, BwordOf_112, BwordOf_115, BwordOf_123, BwordOf_126, BwordOf_134, BwordOf_137, BwordOf_145, BwordOf_148, BwordOf_156, BwordOf_159, BwordOf_167, BwordOf_170, BwordOf_178, BwordOf_181, BwordOf_189, BwordOf_192, BwordOf_200, BwordOf_203, BwordOf_211, BwordOf_214, BwordOf_222, BwordOf_225, BwordOf_233, BwordOf_236, BwordOf_244, BwordOf_247, BwordOf_255, BwordOf_260, BwordOf_262, oi_0, oi_1, oi_10, oi_11, oi_12, oi_13, oi_14, oi_15, oi_16, oi_17, oi_18, oi_19, oi_2, oi_20, oi_21, oi_22, oi_23, oi_3, oi_4, oi_5, oi_6, oi_7, oi_8, oi_9, oi_m2]; try dsimp only
        refine ⟨fun h6 => ?_, fun h6 => ?_⟩
        · refine hB _ _ _ _ _ (fun m7 hm7 => ?_)
          dsimp only [ugo, uwp, ust, uct, rfd, BwordOf, Nat.beq, lv_args, rlk, rs1, rs2, rdl, rky, rcd, rno, rsw, Value.category, List.filter, List.take, List.drop, List.reverse, List.reverseAux, List.cons_append, List.nil_append, Option.toList, Int.toNat, Int.reduceToNat, if_pos, if_neg, reduceIte, ↓reduceIte, Nat.reduceAdd, Nat.reduceEqDiff, Nat.reduceBEq, beq_self_eq_true, Bool.not_true, Bool.not_false, Bool.and_true, Bool.and_false, Bool.true_and, Bool.false_and, gI_sI, gI_sL, gI_sA, gI_sM, gL_sI, gL_sL, gL_sA, gL_sM, aI_sI, aI_sL, aI_sA, aI_sM, aL_sI, aL_sL, aL_sA, aL_sM, BwordOf_0, BwordOf_8, BwordOf_10, BwordOf_18, BwordOf_20, BwordOf_28, BwordOf_30, BwordOf_38, BwordOf_40, BwordOf_48, BwordOf_50, BwordOf_58, BwordOf_60, BwordOf_68, BwordOf_71, BwordOf_79, BwordOf_82, BwordOf_90, BwordOf_93, BwordOf_101, BwordOf_104, BwordOf_112, BwordOf_115, BwordOf_123, BwordOf_126, BwordOf_134, BwordOf_137, BwordOf_145, BwordOf_148, BwordOf_156, BwordOf_159, BwordOf_167, BwordOf_170, BwordOf_178, BwordOf_181, BwordOf_189, BwordOf_192, BwordOf_200, BwordOf_203, BwordOf_211, BwordOf_214, BwordOf_222, BwordOf_225, BwordOf_233, BwordOf_236, BwordOf_244, BwordOf_247, BwordOf_255, BwordOf_260, BwordOf_262, oi_0, oi_1, oi_10, oi_11, oi_12, oi_13, oi_14, oi_15, oi_16, oi_17, oi_18, oi_19, oi_2, oi_20, oi_21, oi_22, oi_23, oi_3, oi_4, oi_5, oi_6, oi_7, oi_8, oi_9, oi_m2]; try dsimp only
          refine ⟨fun h8 => ?_, fun h8 => ?_⟩
          · refine hB _ _ _ _ _ (fun m9 hm9 => ?_)
            dsimp only [ugo, uwp, ust, uct, rfd, BwordOf, Nat.beq, lv_args, rlk, rs1, rs2, rdl, rky, rcd, rno, rsw, Value.category, List.filter, List.take, List.drop, List.reverse, List.reverseAux, List.cons_append, List.nil_append, Option.toList, Int.toNat, Int.reduceToNat, if_pos, if_neg, reduceIte, ↓reduceIte, Nat.reduceAdd, Nat.reduceEqDiff, Nat.reduceBEq, beq_self_eq_true, Bool.not_true, Bool.not_false, Bool.and_true, Bool.and_false, Bool.true_and, Bool.false_and, gI_sI, gI_sL, gI_sA, gI_sM, gL_sI, gL_sL, gL_sA, gL_sM, aI_sI, aI_sL, aI_sA, aI_sM, aL_sI, aL_sL, aL_sA, aL_sM, BwordOf_0, BwordOf_8, BwordOf_10, BwordOf_18, BwordOf_20, BwordOf_28, BwordOf_30, BwordOf_38, BwordOf_40, BwordOf_48, BwordOf_50, BwordOf_58, BwordOf_60, BwordOf_68, BwordOf_71, BwordOf_79, BwordOf_82, BwordOf_90, BwordOf_93, BwordOf_101, BwordOf_104, BwordOf_112, BwordOf_115, BwordOf_123, BwordOf_126, BwordOf_134, BwordOf_137, BwordOf_145, BwordOf_148, BwordOf_156, BwordOf_159, BwordOf_167, BwordOf_170, BwordOf_178, BwordOf_181, BwordOf_189, BwordOf_192, BwordOf_200, BwordOf_203, BwordOf_211, BwordOf_214, BwordOf_222, BwordOf_225, BwordOf_233, BwordOf_236, BwordOf_244, BwordOf_247, BwordOf_255, BwordOf_260, BwordOf_262, oi_0, oi_1, oi_10, oi_11, oi_12, oi_13, oi_14, oi_15, oi_16, oi_17, oi_18, oi_19, oi_2, oi_20, oi_21, oi_22, oi_23, oi_3, oi_4, oi_5, oi_6, oi_7, oi_8, oi_9, oi_m2]; try dsimp only
            refine ⟨fun h10 => ?_, fun h10 => ?_⟩
            · refine hB _ _ _ _ _ (fun m11 hm11 => ?_)
              dsimp only [ugo, uwp, ust, uct, rfd, BwordOf, Nat.beq, lv_args, rlk, rs1, rs2, rdl, rky, rcd, rno, rsw, Value.category, List.filter, List.take, List.drop, List.reverse, List.reverseAux, List.cons_append, List.nil_append, Option.toList, Int.toNat, Int.reduceToNat, if_pos, if_neg, reduceIte, ↓reduceIte, Nat.reduceAdd, Nat.reduceEqDiff, Nat.reduceBEq, beq_self_eq_true, Bool.not_true, Bool.not_false, Bool.and_true, Bool.and_false, Bool.true_and, Bool.false_and, gI_sI, gI_sL, gI_sA, gI_sM, gL_sI, gL_sL, gL_sA, gL_sM, aI_sI, aI_sL, aI_sA, aI_sM, aL_sI, aL_sL, aL_sA, aL_sM, BwordOf_0, BwordOf_8, BwordOf_10, BwordOf_18, BwordOf_20, BwordOf_28, BwordOf_30, BwordOf_38, BwordOf_40, BwordOf_48, BwordOf_50, BwordOf_58, BwordOf_60, BwordOf_68, BwordOf_71, BwordOf_79, BwordOf_82, BwordOf_90, BwordOf_93, BwordOf_101, BwordOf_104, BwordOf_112, BwordOf_115, BwordOf_123, BwordOf_126, BwordOf_134, BwordOf_137, BwordOf_145, BwordOf_148, BwordOf_156, BwordOf_159, BwordOf_167, BwordOf_170, BwordOf_178, BwordOf_181, BwordOf_189, BwordOf_192, BwordOf_200, BwordOf_203, BwordOf_211, BwordOf_214, BwordOf_222, BwordOf_225, BwordOf_233, BwordOf_236, BwordOf_244, BwordOf_247, BwordOf_255, BwordOf_260, BwordOf_262, oi_0, oi_1, oi_10, oi_11, oi_12, oi_13, oi_14, oi_15, oi_16, oi_17, oi_18, oi_19, oi_2, oi_20, oi_21, oi_22, oi_23, oi_3, oi_4, oi_5, oi_6, oi_7, oi_8, oi_9, oi_m2]; try dsimp only
              refine ⟨fun h12 => ?_, fun h12 => ?_⟩
              · refine hB _ _ _ _ _ (fun m13 hm13 => ?_)
                dsimp only [ugo, uwp, ust, uct, rfd, BwordOf, Nat.beq, lv_args, rlk, rs1, rs2, rdl, rky, rcd, rno, rsw, Value.category, List.filter, List.take, List.drop, List.reverse, List.reverseAux, List.cons_append, List.nil_append, Option.toList, Int.toNat, Int.reduceToNat, if_pos, if_neg, reduceIte, ↓reduceIte, Nat.reduceAdd, Nat.reduceEqDiff, Nat.reduceBEq, beq_self_eq_true, Bool.not_true, Bool.not_false, Bool.and_true, Bool.and_false, Bool.true_and, Bool.false_and, gI_sI, gI_sL, gI_sA, gI_sM, gL_sI, gL_sL, gL_sA, gL_sM, aI_sI, aI_sL, aI_sA, aI_sM, aL_sI, aL_sL, aL_sA, aL_sM, BwordOf_0, BwordOf_8, BwordOf_10, BwordOf_18, BwordOf_20, BwordOf_28, BwordOf_30, BwordOf_38, BwordOf_40, BwordOf_48, BwordOf_50, BwordOf_58, BwordOf_60, BwordOf_68, BwordOf_71, BwordOf_79, BwordOf_82, BwordOf_90, BwordOf_93, BwordOf_101, BwordOf_104, BwordOf_112, BwordOf_115, BwordOf_123, BwordOf_126, BwordOf_134, BwordOf_137, BwordOf_145, BwordOf_148, BwordOf_156, BwordOf_159, BwordOf_167, BwordOf_170, BwordOf_178, BwordOf_181, BwordOf_189, BwordOf_192, BwordOf_200, BwordOf_203, BwordOf_211, BwordOf_214, BwordOf_222, BwordOf_225, BwordOf_233, BwordOf_236, BwordOf_244, BwordOf_247, BwordOf_255, BwordOf_260, BwordOf_262, oi_0, oi_1, oi_10, oi_11, oi_12, oi_13, oi_14, oi_15, oi_16, oi_17, oi_18, oi_19, oi_2, oi_20, oi_21, oi_22, oi_23, oi_3, oi_4, oi_5, oi_6, oi_7, oi_8, oi_9, oi_m2]; try dsimp only
                refine ⟨fun h14 => ?_, fun h14 => ?_⟩
                · refine hB _ _ _ _ _ (fun m15 hm15 => ?_)
                  dsimp only [ugo, uwp, ust, uct, rfd, BwordOf, Nat.beq, lv_args, rlk, rs1, rs2, rdl, rky, rcd, rno, rsw, Value.category, List.filter, List.take, List.drop, List.reverse, List.reverseAux, List.cons_append, List.nil_append, Option.toList, Int.toNat, Int.reduceToNat, if_pos, if_neg, reduceIte, ↓reduceIte, Nat.reduceAdd, Nat.reduceEqDiff, Nat.reduceBEq, beq_self_eq_true, Bool.not_true, Bool.not_false, Bool.and_true, Bool.and_false, Bool.true_and, Bool.false_and, gI_sI, gI_sL, gI_sA, gI_sM, gL_sI, gL_sL, gL_sA, gL_sM, aI_sI, aI_sL, aI_sA, aI_sM, aL_sI, aL_sL, aL_sA, aL_sM, BwordOf_0, BwordOf_8, BwordOf_10, BwordOf_18, BwordOf_20, BwordOf_28, BwordOf_30, BwordOf_38, BwordOf_40, BwordOf_48, BwordOf_50, BwordOf_58, BwordOf_60, BwordOf_68, BwordOf_71, BwordOf_79, BwordOf_82, BwordOf_90, BwordOf_93, BwordOf_101, BwordOf_104, BwordOf_112, BwordOf_115, BwordOf_123, BwordOf_126, BwordOf_134, BwordOf_137, BwordOf_145, BwordOf_148, BwordOf_156, BwordOf_159, BwordOf_167, BwordOf_170, BwordOf_178, BwordOf_181, BwordOf_189, BwordOf_192, BwordOf_200, BwordOf_203, BwordOf_211, BwordOf_214, BwordOf_222, BwordOf_225, BwordOf_233, BwordOf_236, BwordOf_244, BwordOf_247, BwordOf_255, BwordOf_260, BwordOf_262, oi_0, oi_1, oi_10, oi_11, oi_12, oi_13, oi_14, oi_15, oi_16, oi_17, oi_18, oi_19, oi_2, oi_20, oi_21, oi_22, oi_23, oi_3, oi_4, oi_5, oi_6, oi_7, oi_8, oi_9, oi_m2]; try dsimp only
                  refine ⟨fun h16 => ?_, fun h16 => ?_⟩
                  · refine hB _ _ _ _ _ (fun m17 hm17 => ?_)
                    dsimp only [ugo, uwp, ust, uct, rfd, BwordOf, Nat.beq, lv_args, rlk, rs1, rs2, rdl, rky, rcd, rno, rsw, Value.category, List.filter, List.take, List.drop, List.reverse, List.reverseAux, List.cons_append, List.nil_append, Option.toList, Int.toNat, Int.reduceToNat, if_pos, if_neg, reduceIte, ↓reduceIte, Nat.reduceAdd, Nat.reduceEqDiff, Nat.reduceBEq, beq_self_eq_true, Bool.not_true, Bool.not_false, Bool.and_true, Bool.and_false, Bool.true_and, Bool.false_and, gI_sI, gI_sL, gI_sA, gI_sM, gL_sI, gL_sL, gL_sA, gL_sM, aI_sI, aI_sL, aI_sA, aI_sM, aL_sI, aL_sL, aL_sA, aL_sM, BwordOf_0, BwordOf_8, BwordOf_10, BwordOf_18, BwordOf_20, BwordOf_28, BwordOf_30, BwordOf_38, BwordOf_40, BwordOf_48, BwordOf_50, BwordOf_58, BwordOf_60, BwordOf_68, BwordOf_71, BwordOf_79, BwordOf_82, BwordOf_90, BwordOf_93, BwordOf_101, BwordOf_104, BwordOf_112, BwordOf_115, BwordOf_123, BwordOf_126, BwordOf_134, BwordOf_137, BwordOf_145, BwordOf_148, BwordOf_156, BwordOf_159, BwordOf_167, BwordOf_170, BwordOf_178, BwordOf_181, BwordOf_189, BwordOf_192, BwordOf_200, BwordOf_203, BwordOf_211, BwordOf_214, BwordOf_222, BwordOf_225, BwordOf_233, BwordOf_236, BwordOf_244, BwordOf_247, BwordOf_255, BwordOf_260, BwordOf_262, oi_0, oi_1, oi_10, oi_11, oi_12, oi_13, oi_14, oi_15, oi_16, oi_17, oi_18, oi_19, oi_2, oi_20, oi_21, oi_22, oi_23, oi_3, oi_4, oi_5, oi_6, oi_7, oi_8, oi_9, oi_m2]; try dsimp only
                    refine ⟨fun h18 => ?_, fun h18 => ?_⟩
                    · refine hB _ _ _ _ _ (fun m19 hm19 => ?_)
                      dsimp only [ugo, uwp, ust, uct, rfd, BwordOf, Nat.beq, lv_args, rlk, rs1, rs2, rdl, rky, rcd, rno, rsw, Value.category, List.filter, List.take, List.drop, List.reverse, List.reverseAux, List.cons_append, List.nil_append, Option.toList, Int.toNat, Int.reduceToNat, if_pos, if_neg, reduceIte, ↓reduceIte, Nat.reduceAdd, Nat.reduceEqDiff, Nat.reduceBEq, beq_self_eq_true, Bool.not_true, Bool.not_false, Bool.and_true, Bool.and_false, Bool.true_and, Bool.false_and, gI_sI, gI_sL, gI_sA, gI_sM, gL_sI, gL_sL, gL_sA, gL_sM, aI_sI, aI_sL, aI_sA, aI_sM, aL_sI, aL_sL, aL_sA, aL_sM, BwordOf_0, BwordOf_8, BwordOf_10, BwordOf_18, BwordOf_20, BwordOf_28, BwordOf_30, BwordOf_38, BwordOf_40, BwordOf_48, BwordOf_50, BwordOf_58, BwordOf_60, BwordOf_68, BwordOf_71, BwordOf_79, BwordOf_82, BwordOf_90, BwordOf_93, BwordOf_101, BwordOf_104, BwordOf_112, BwordOf_115, BwordOf_123, BwordOf_126, BwordOf_134, BwordOf_137, BwordOf_145, BwordOf_148, BwordOf_156, BwordOf_159, BwordOf_167, BwordOf_170, BwordOf_178, BwordOf_181, BwordOf_189, BwordOf_192, BwordOf_200, BwordOf_203, BwordOf_211, BwordOf_214, BwordOf_222, BwordOf_225, BwordOf_233, BwordOf_236, BwordOf_244, BwordOf_247, BwordOf_255, BwordOf_260, BwordOf_262, oi_0, oi_1, oi_10, oi_11, oi_12, oi_13, oi_14, oi_15, oi_16, oi_17, oi_18, oi_19, oi_2, oi_20, oi_21, oi_22, oi_23, oi_3, oi_4, oi_5, oi_6, oi_7, oi_8, oi_9, oi_m2]; try dsimp only
                      refine ⟨fun h20 => ?_, fun h20 => ?_⟩
                      · refine hB _ _ _ _ _ (fun m21 hm21 => ?_)
                        dsimp only [ugo, uwp, ust, uct, rfd, BwordOf, Nat.beq, lv_args, rlk, rs1, rs2, rdl, rky, rcd, rno, rsw, Value.category, List.filter, List.take, List.drop, List.reverse, List.reverseAux, List.cons_append, List.nil_append, Option.toList, Int.toNat, Int.reduceToNat, if_pos, if_neg, reduceIte, ↓reduceIte, Nat.reduceAdd, Nat.reduceEqDiff, Nat.reduceBEq, beq_self_eq_true, Bool.not_true, Bool.not_false, Bool.and_true, Bool.and_false, Bool.true_and, Bool.false_and, gI_sI, gI_sL, gI_sA, gI_sM, gL_sI, gL_sL, gL_sA, gL_sM, aI_sI, aI_sL, aI_sA, aI_sM, aL_sI, aL_sL, aL_sA, aL_sM, BwordOf_0, BwordOf_8, BwordOf_10, BwordOf_18, BwordOf_20, BwordOf_28, BwordOf_30, BwordOf_38, BwordOf_40, BwordOf_48, BwordOf_50, BwordOf_58, BwordOf_60, BwordOf_68, BwordOf_71, BwordOf_79, BwordOf_82, BwordOf_90, BwordOf_93, BwordOf_101, BwordOf_104, BwordOf_112, BwordOf_115, BwordOf_123, BwordOf_126, BwordOf_134, BwordOf_137, BwordOf_145, BwordOf_148, BwordOf_156, BwordOf_159, BwordOf_167, BwordOf_170, BwordOf_178, BwordOf_181, BwordOf_189, BwordOf_192, BwordOf_200, BwordOf_203, BwordOf_211, BwordOf_214, BwordOf_222, BwordOf_225, BwordOf_233, BwordOf_236, BwordOf_244, BwordOf_247, BwordOf_255, BwordOf_260, BwordOf_262, oi_0, oi_1, oi_10, oi_11, oi_12, oi_13, oi_14, oi_15, oi_16, oi_17, oi_18, oi_19, oi_2, oi_20, oi_21, oi_22, oi_23, oi_3, oi_4, oi_5, oi_6, oi_7, oi_8, oi_9, oi_m2]; try dsimp only
                        refine ⟨fun h22 => ?_, fun h22 => ?_⟩
                        · refine hB _ _ _ _ _ (fun m23 hm23 => ?_)
                          dsimp only [ugo, uwp, ust, uct, rfd, BwordOf, Nat.beq, lv_args, rlk, rs1, rs2, rdl, rky, rcd, rno, rsw, Value.category, List.filter, List.take, List.drop, List.reverse, List.reverseAux, List.cons_append, List.nil_append, Option.toList, Int.toNat, Int.reduceToNat, if_pos, if_neg, reduceIte, ↓reduceIte, Nat.reduceAdd, Nat.reduceEqDiff, Nat.reduceBEq, beq_self_eq_true, Bool.not_true, Bool.not_false, Bool.and_true, Bool.and_false, Bool.true_and, Bool.false_and, gI_sI, gI_sL, gI_sA, gI_sM, gL_sI, gL_sL, gL_sA, gL_sM, aI_sI, aI_sL, aI_sA, aI_sM, aL_sI, aL_sL, aL_sA, aL_sM, BwordOf_0, BwordOf_8, BwordOf_10, BwordOf_18, BwordOf_20, BwordOf_28, BwordOf_30, BwordOf_38, BwordOf_40, BwordOf_48, BwordOf_50, BwordOf_58, BwordOf_60, BwordOf_68, BwordOf_71, BwordOf_79, BwordOf_82, BwordOf_90, BwordOf_93, BwordOf_101, BwordOf_104, BwordOf_112, BwordOf_115, BwordOf_123, BwordOf_126, BwordOf_134, BwordOf_137, BwordOf_145, BwordOf_148, BwordOf_156, BwordOf_159, BwordOf_167, BwordOf_170, BwordOf_178, BwordOf_181, BwordOf_189, BwordOf_192, BwordOf_200, BwordOf_203, BwordOf_211, BwordOf_214, BwordOf_222, BwordOf_225, BwordOf_233, BwordOf_236, BwordOf_244, BwordOf_247, BwordOf_255, BwordOf_260, BwordOf_262, oi_0, oi_1, oi_10, oi_11, oi_12, oi_13, oi_14, oi_15, oi_16, oi_17, oi_18, oi_19, oi_2, oi_20, oi_21, oi_22, oi_23, oi_3, oi_4, oi_5, oi_6, oi_7, oi_8, oi_9, oi_m2]; try dsimp only
                          refine ⟨fun h24 => ?_, fun h24 => ?_⟩
                          · refine hB _ _ _ _ _ (fun m25 hm25 => ?_)
                            dsimp only [ugo, uwp, ust, uct, rfd, BwordOf, Nat.beq, lv_args, rlk, rs1, rs2, rdl, rky, rcd, rno, rsw, Value.category, List.filter, List.take, List.drop, List.reverse, List.reverseAux, List.cons_append, List.nil_append, Option.toList, Int.toNat, Int.reduceToNat, if_pos, if_neg, reduceIte, ↓reduceIte, Nat.reduceAdd, Nat.reduceEqDiff, Nat.reduceBEq, beq_self_eq_true, Bool.not_true, Bool.not_false, Bool.and_true, Bool.and_false, Bool.true_and, Bool.false_and, gI_sI, gI_sL, gI_sA, gI_sM, gL_sI, gL_sL, gL_sA, gL_sM, aI_sI, aI_sL, aI_sA, aI_sM, aL_sI, aL_sL, aL_sA, aL_sM, BwordOf_0, BwordOf_8, BwordOf_10, BwordOf_18, BwordOf_20, BwordOf_28, BwordOf_30, BwordOf_38, BwordOf_40, BwordOf_48, BwordOf_50, BwordOf_58, BwordOf_60, BwordOf_68, BwordOf_71, BwordOf_79, BwordOf_82, BwordOf_90, BwordOf_93, BwordOf_101, BwordOf_104, BwordOf_112, BwordOf_115, BwordOf_123, BwordOf_126, BwordOf_134, BwordOf_137, BwordOf_145, BwordOf_148, BwordOf_156, BwordOf_159, BwordOf_167, BwordOf_170, BwordOf_178, BwordOf_181, BwordOf_189, BwordOf_192, BwordOf_200, BwordOf_203, BwordOf_211, BwordOf_214, BwordOf_222, BwordOf_225, BwordOf_233, BwordOf_236, BwordOf_244, BwordOf_247, BwordOf_255, BwordOf_260, BwordOf_262, oi_0, oi_1, oi_10, oi_11, oi_12, oi_13, oi_14, oi_15, oi_16, oi_17, oi_18, oi_19, oi_2, oi_20, oi_21, oi_22, oi_23, oi_3, oi_4, oi_5, oi_6, oi_7, oi_8, oi_9, oi_m2]; try dsimp only
                            refine ⟨fun h26 => ?_, fun h26 => ?_⟩
                            · refine hB _ _ _ _ _ (fun m27 hm27 => ?_)
                              dsimp only [ugo, uwp, ust, uct, rfd, BwordOf, Nat.beq, lv_args, rlk, rs1, rs2, rdl, rky, rcd, rno, rsw, Value.category, List.filter, List.take, List.drop, List.reverse, List.reverseAux, List.cons_append, List.nil_append, Option.toList, Int.toNat, Int.reduceToNat, if_pos, if_neg, reduceIte, ↓reduceIte, Nat.reduceAdd, Nat.reduceEqDiff, Nat.reduceBEq, beq_self_eq_true, Bool.not_true, Bool.not_false, Bool.and_true, Bool.and_false, Bool.true_and, Bool.false_and, gI_sI, gI_sL, gI_sA, gI_sM, gL_sI, gL_sL, gL_sA, gL_sM, aI_sI, aI_sL, aI_sA, aI_sM, aL_sI, aL_sL, aL_sA, aL_sM, BwordOf_0, BwordOf_8, BwordOf_10, BwordOf_18, BwordOf_20, BwordOf_28, BwordOf_30, BwordOf_38, BwordOf_40, BwordOf_48, BwordOf_50, BwordOf_58, BwordOf_60, BwordOf_68, BwordOf_71, BwordOf_79, BwordOf_82, BwordOf_90, BwordOf_93, BwordOf_101, BwordOf_104, BwordOf_112, BwordOf_115, BwordOf_123, BwordOf_126, BwordOf_134, BwordOf_137, BwordOf_145, BwordOf_148, BwordOf_156, BwordOf_159, BwordOf_167, BwordOf_170, BwordOf_178, BwordOf_181, BwordOf_189, BwordOf_192, BwordOf_200, BwordOf_203, BwordOf_211, BwordOf_214, BwordOf_222, BwordOf_225, BwordOf_233, BwordOf_236, BwordOf_244, BwordOf_247, BwordOf_255, BwordOf_260, BwordOf_262, oi_0, oi_1, oi_10, oi_11, oi_12, oi_13, oi_14, oi_15, oi_16, oi_17, oi_18, oi_19, oi_2, oi_20, oi_21, oi_22, oi_23, oi_3, oi_4, oi_5, oi_6, oi_7, oi_8, oi_9, oi_m2]; try dsimp only
                              refine ⟨fun h28 => ?_, fun h28 => ?_⟩
                              · refine hB _ _ _ _ _ (fun m29 hm29 => ?_)
                                dsimp only [ugo, uwp, ust, uct, rfd, BwordOf, Nat.beq, lv_args, rlk, rs1, rs2, rdl, rky, rcd, rno, rsw, Value.category, List.filter, List.take, List.drop, List.reverse, List.reverseAux, List.cons_append, List.nil_append, Option.toList, Int.toNat, Int.reduceToNat, if_pos, if_neg, reduceIte, ↓reduceIte, Nat.reduceAdd, Nat.reduceEqDiff, Nat.reduceBEq, beq_self_eq_true, Bool.not_true, Bool.not_false, Bool.and_true, Bool.and_false, Bool.true_and, Bool.false_and, gI_sI, gI_sL, gI_sA, gI_sM, gL_sI, gL_sL, gL_sA, gL_sM, aI_sI, aI_sL, aI_sA, aI_sM, aL_sI, aL_sL, aL_sA, aL_sM, BwordOf_0, BwordOf_8, BwordOf_10, BwordOf_18, BwordOf_20, BwordOf_28, BwordOf_30, BwordOf_38, BwordOf_40, BwordOf_48, BwordOf_50, BwordOf_58, BwordOf_60, BwordOf_68, BwordOf_71, BwordOf_79, BwordOf_82, BwordOf_90, BwordOf_93, BwordOf_101, BwordOf_104, BwordOf_112, BwordOf_115, BwordOf_123, BwordOf_126, BwordOf_134, BwordOf_137, BwordOf_145, BwordOf_148, BwordOf_156, BwordOf_159, BwordOf_167, BwordOf_170, BwordOf_178, BwordOf_181, BwordOf_189, BwordOf_192, BwordOf_200, BwordOf_203, BwordOf_211, BwordOf_214, BwordOf_222, BwordOf_225, BwordOf_233, BwordOf_236, BwordOf_244, BwordOf_247, BwordOf_255, BwordOf_260, BwordOf_262, oi_0, oi_1, oi_10, oi_11, oi_12, oi_13, oi_14, oi_15, oi_16, oi_17, oi_18, oi_19, oi_2, oi_20, oi_21, oi_22, oi_23, oi_3, oi_4, oi_5, oi_6, oi_7, oi_8, oi_9, oi_m2]; try dsimp only
                                refine ⟨fun h30 => ?_, fun h30 => ?_⟩
                                · refine hB _ _ _ _ _ (fun m31 hm31 => ?_)
                                  dsimp only [ugo, uwp, ust, uct, rfd, BwordOf, Nat.beq, lv_args, rlk, rs1, rs2, rdl, rky, rcd, rno, rsw, Value.category, List.filter, List.take, List.drop, List.reverse, List.reverseAux, List.cons_append, List.nil_append, Option.toList, Int.toNat, Int.reduceToNat, if_pos, if_neg, reduceIte, ↓reduceIte, Nat.reduceAdd, Nat.reduceEqDiff, Nat.reduceBEq, beq_self_eq_true, Bool.not_true, Bool.not_false, Bool.and_true, Bool.and_false, Bool.true_and, Bool.false_and, gI_sI, gI_sL, gI_sA, gI_sM, gL_sI, gL_sL, gL_sA, gL_sM, aI_sI, aI_sL, aI_sA, aI_sM, aL_sI, aL_sL, aL_sA, aL_sM, BwordOf_0, BwordOf_8, BwordOf_10, BwordOf_18, BwordOf_20, BwordOf_28, BwordOf_30, BwordOf_38, BwordOf_40, BwordOf_48, BwordOf_50, BwordOf_58, BwordOf_60, BwordOf_68, BwordOf_71, BwordOf_79, BwordOf_82, BwordOf_90, BwordOf_93, BwordOf_101, BwordOf_104, BwordOf_112, BwordOf_115, BwordOf_123, BwordOf_126, BwordOf_134, BwordOf_137, BwordOf_145, BwordOf_148, BwordOf_156, BwordOf_159, BwordOf_167, BwordOf_170, BwordOf_178, BwordOf_181, BwordOf_189, BwordOf_192, BwordOf_200, BwordOf_203, BwordOf_211, BwordOf_214, BwordOf_222, BwordOf_225, BwordOf_233, BwordOf_236, BwordOf_244, BwordOf_247, BwordOf_255, BwordOf_260, BwordOf_262, oi_0, oi_1, oi_10, oi_11, oi_12, oi_13, oi_14, oi_15, oi_16, oi_17, oi_18, oi_19, oi_2, oi_20, oi_21, oi_22, oi_23, oi_3, oi_4, oi_5, oi_6, oi_7, oi_8, oi_9, oi_m2]; try dsimp only
                                  refine ⟨fun h32 => ?_, fun h32 => ?_⟩
                                  · refine hB _ _ _ _ _ (fun m33 hm33 => ?_)
                                    dsimp only [ugo, uwp, ust, uct, rfd, BwordOf, Nat.beq, lv_args, rlk, rs1, rs2, rdl, rky, rcd, rno, rsw, Value.category, List.filter, List.take, List.drop, List.reverse, List.reverseAux, List.cons_append, List.nil_append, Option.toList, Int.toNat, Int.reduceToNat, if_pos, if_neg, reduceIte, ↓reduceIte, Nat.reduceAdd, Nat.reduceEqDiff, Nat.reduceBEq, beq_self_eq_true, Bool.not_true, Bool.not_false, Bool.and_true, Bool.and_false, Bool.true_and, Bool.false_and, gI_sI, gI_sL, gI_sA, gI_sM, gL_sI, gL_sL, gL_sA, gL_sM, aI_sI, aI_sL, aI_sA, aI_sM, aL_sI, aL_sL, aL_sA, aL_sM, BwordOf_0, BwordOf_8, BwordOf_10, BwordOf_18, BwordOf_20, BwordOf_28, BwordOf_30, BwordOf_38, BwordOf_40, BwordOf_48, BwordOf_50, BwordOf_58, BwordOf_60, BwordOf_68, BwordOf_71, BwordOf_79, BwordOf_82, BwordOf_90, BwordOf_93, BwordOf_101, BwordOf_104, BwordOf_112, BwordOf_115, BwordOf_123, BwordOf_126, BwordOf_134, BwordOf_137, BwordOf_145, BwordOf_148, BwordOf_156, BwordOf_159, BwordOf_167, BwordOf_170, BwordOf_178, BwordOf_181, BwordOf_189, BwordOf_192, BwordOf_200, BwordOf_203, BwordOf_211, BwordOf_214, BwordOf_222, BwordOf_225, BwordOf_233, BwordOf_236, BwordOf_244, BwordOf_247, BwordOf_255, BwordOf_260, BwordOf_262, oi_0, oi_1, oi_10, oi_11, oi_12, oi_13, oi_14, oi_15, oi_16, oi_17, oi_18, oi_19, oi_2, oi_20, oi_21, oi_22, oi_23, oi_3, oi_4, oi_5, oi_6, oi_7, oi_8, oi_9, oi_m2]; try dsimp only
                                    refine ⟨fun h34 => ?_, fun h34 => ?_⟩
                                    · refine hB _ _ _ _ _ (fun m35 hm35 => ?_)
                                      dsimp only [ugo, uwp, ust, uct, rfd, BwordOf, Nat.beq, lv_args, rlk, rs1, rs2, rdl, rky, rcd, rno, rsw, Value.category, List.filter, List.take, List.drop, List.reverse, List.reverseAux, List.cons_append, List.nil_append, Option.toList, Int.toNat, Int.reduceToNat, if_pos, if_neg, reduceIte, ↓reduceIte, Nat.reduceAdd, Nat.reduceEqDiff, Nat.reduceBEq, beq_self_eq_true, Bool.not_true, Bool.not_false, Bool.and_true, Bool.and_false, Bool.true_and, Bool.false_and, gI_sI, gI_sL, gI_sA, gI_sM, gL_sI, gL_sL, gL_sA, gL_sM, aI_sI, aI_sL, aI_sA, aI_sM, aL_sI, aL_sL, aL_sA, aL_sM, BwordOf_0, BwordOf_8, BwordOf_10, BwordOf_18, BwordOf_20, BwordOf_28, BwordOf_30, BwordOf_38, BwordOf_40, BwordOf_48, BwordOf_50, BwordOf_58, BwordOf_60, BwordOf_68, BwordOf_71, BwordOf_79, BwordOf_82, BwordOf_90, BwordOf_93, BwordOf_101, BwordOf_104, BwordOf_112, BwordOf_115, BwordOf_123, BwordOf_126, BwordOf_134, BwordOf_137, BwordOf_145, BwordOf_148, BwordOf_156, BwordOf_159, BwordOf_167, BwordOf_170, BwordOf_178, BwordOf_181, BwordOf_189, BwordOf_192, BwordOf_200, BwordOf_203, BwordOf_211, BwordOf_214, BwordOf_222, BwordOf_225, BwordOf_233, BwordOf_236, BwordOf_244, BwordOf_247, BwordOf_255, BwordOf_260, BwordOf_262, oi_0, oi_1, oi_10, oi_11, oi_12, oi_13, oi_14, oi_15, oi_16, oi_17, oi_18, oi_19, oi_2, oi_20, oi_21, oi_22, oi_23, oi_3, oi_4, oi_5, oi_6, oi_7, oi_8, oi_9, oi_m2]; try dsimp only
                                      refine ⟨fun h36 => ?_, fun h36 => ?_⟩
                                      · refine hB _ _ _ _ _ (fun m37 hm37 => ?_)
                                        dsimp only [ugo, uwp, ust, uct, rfd, BwordOf, Nat.beq, lv_args, rlk, rs1, rs2, rdl, rky, rcd, rno, rsw, Value.category, List.filter, List.take, List.drop, List.reverse, List.reverseAux, List.cons_append, List.nil_append, Option.toList, Int.toNat, Int.reduceToNat, if_pos, if_neg, reduceIte, ↓reduceIte, Nat.reduceAdd, Nat.reduceEqDiff, Nat.reduceBEq, beq_self_eq_true, Bool.not_true, Bool.not_false, Bool.and_true, Bool.and_false, Bool.true_and, Bool.false_and, gI_sI, gI_sL, gI_sA, gI_sM, gL_sI, gL_sL, gL_sA, gL_sM, aI_sI, aI_sL, aI_sA, aI_sM, aL_sI, aL_sL, aL_sA, aL_sM, BwordOf_0, BwordOf_8, BwordOf_10, BwordOf_18, BwordOf_20, BwordOf_28, BwordOf_30, BwordOf_38, BwordOf_40, BwordOf_48, BwordOf_50, BwordOf_58, BwordOf_60, BwordOf_68, BwordOf_71, BwordOf_79, BwordOf_82, BwordOf_90, BwordOf_93, BwordOf_101, BwordOf_104, BwordOf_112, BwordOf_115, BwordOf_123, BwordOf_126, BwordOf_134, BwordOf_137, BwordOf_145, BwordOf_148, BwordOf_156, BwordOf_159, BwordOf_167, BwordOf_170, BwordOf_178, BwordOf_181, BwordOf_189, BwordOf_192, BwordOf_200, BwordOf_203, BwordOf_211, BwordOf_214, BwordOf_222, BwordOf_225, BwordOf_233, BwordOf_236, BwordOf_244, BwordOf_247, BwordOf_255, BwordOf_260, BwordOf_262, oi_0, oi_1, oi_10, oi_11, oi_12, oi_13, oi_14, oi_15, oi_16, oi_17, oi_18, oi_19, oi_2, oi_20, oi_21, oi_22, oi_23, oi_3, oi_4, oi_5, oi_6, oi_7, oi_8, oi_9, oi_m2]; try dsimp only
                                        refine ⟨fun h38 => ?_, fun h38 => ?_⟩
                                        · refine hB _ _ _ _ _ (fun m39 hm39 => ?_)
                                          dsimp only [ugo, uwp, ust, uct, rfd, BwordOf, Nat.beq, lv_args, rlk, rs1, rs2, rdl, rky, rcd, rno, rsw, Value.category, List.filter, List.take, List.drop, List.reverse, List.reverseAux, List.cons_append, List.nil_append, Option.toList, Int.toNat, Int.reduceToNat, if_pos, if_neg, reduceIte, ↓reduceIte, Nat.reduceAdd, Nat.reduceEqDiff, Nat.reduceBEq, beq_self_eq_true, Bool.not_true, Bool.not_false, Bool.and_true, Bool.and_false, Bool.true_and, Bool.false_and, gI_sI, gI_sL, gI_sA, gI_sM, gL_sI, gL_sL, gL_sA, gL_sM, aI_sI, aI_sL, aI_sA, aI_sM, aL_sI, aL_sL, aL_sA, aL_sM, BwordOf_0, BwordOf_8, BwordOf_10, BwordOf_18, BwordOf_20, BwordOf_28, BwordOf_30, BwordOf_38, BwordOf_40, BwordOf_48, BwordOf_50, BwordOf_58, BwordOf_60, BwordOf_68, BwordOf_71, BwordOf_79, BwordOf_82, BwordOf_90, BwordOf_93, BwordOf_101, BwordOf_104, BwordOf_112, BwordOf_115, BwordOf_123, BwordOf_126, BwordOf_134, BwordOf_137, BwordOf_145, BwordOf_148, BwordOf_156, BwordOf_159, BwordOf_167, BwordOf_170, BwordOf_178, BwordOf_181, BwordOf_189, BwordOf_192, BwordOf_200, BwordOf_203, BwordOf_211, BwordOf_214, BwordOf_222, BwordOf_225, BwordOf_233, BwordOf_236, BwordOf_244, BwordOf_247, BwordOf_255, BwordOf_260, BwordOf_262, oi_0, oi_1, oi_10, oi_11, oi_12, oi_13, oi_14, oi_15, oi_16, oi_17, oi_18, oi_19, oi_2, oi_20, oi_21, oi_22, oi_23, oi_3, oi_4, oi_5, oi_6, oi_7, oi_8, oi_9, oi_m2]; try dsimp only
                                          refine ⟨fun h40 => ?_, fun h40 => ?_⟩
                                          · refine hB _ _ _ _ _ (fun m41 hm41 => ?_)
                                            dsimp only [ugo, uwp, ust, uct, rfd, BwordOf, Nat.beq, lv_args, rlk, rs1, rs2, rdl, rky, rcd, rno, rsw, Value.category, List.filter, List.take, List.drop, List.reverse, List.reverseAux, List.cons_append, List.nil_append, Option.toList, Int.toNat, Int.reduceToNat, if_pos, if_neg, reduceIte, ↓reduceIte, Nat.reduceAdd, Nat.reduceEqDiff, Nat.reduceBEq, beq_self_eq_true, Bool.not_true, Bool.not_false, Bool.and_true, Bool.and_false, Bool.true_and, Bool.false_and, gI_sI, gI_sL, gI_sA, gI_sM, gL_sI, gL_sL, gL_sA, gL_sM, aI_sI, aI_sL, aI_sA, aI_sM, aL_sI, aL_sL, aL_sA, aL_sM, BwordOf_0, BwordOf_8, BwordOf_10, BwordOf_18, BwordOf_20, BwordOf_28, BwordOf_30, BwordOf_38, BwordOf_40, BwordOf_48, BwordOf_50, BwordOf_58, BwordOf_60, BwordOf_68, BwordOf_71, BwordOf_79, BwordOf_82, BwordOf_90, BwordOf_93, BwordOf_101, BwordOf_104, BwordOf_112, BwordOf_115, BwordOf_123, BwordOf_126, BwordOf_134, BwordOf_137, BwordOf_145, BwordOf_148, BwordOf_156, BwordOf_159, BwordOf_167, BwordOf_170, BwordOf_178, BwordOf_181, BwordOf_189, BwordOf_192, BwordOf_200, BwordOf_203, BwordOf_211, BwordOf_214, BwordOf_222, BwordOf_225, BwordOf_233, BwordOf_236, BwordOf_244, BwordOf_247, BwordOf_255, BwordOf_260, BwordOf_262, oi_0, oi_1, oi_10, oi_11, oi_12, oi_13, oi_14, oi_15, oi_16, oi_17, oi_18, oi_19, oi_2, oi_20, oi_21, oi_22, oi_23, oi_3, oi_4, oi_5, oi_6, oi_7, oi_8, oi_9, oi_m2]; try dsimp only
                                            refine ⟨fun h42 => ?_, fun h42 => ?_⟩
                                            · refine hB _ _ _ _ _ (fun m43 hm43 => ?_)
                                              dsimp only [ugo, uwp, ust, uct, rfd, BwordOf, Nat.beq, lv_args, rlk, rs1, rs2, rdl, rky, rcd, rno, rsw, Value.category, List.filter, List.take, List.drop, List.reverse, List.reverseAux, List.cons_append, List.nil_append, Option.toList, Int.toNat, Int.reduceToNat, if_pos, if_neg, reduceIte, ↓reduceIte, Nat.reduceAdd, Nat.reduceEqDiff, Nat.reduceBEq, beq_self_eq_true, Bool.not_true, Bool.not_false, Bool.and_true, Bool.and_false, Bool.true_and, Bool.false_and, gI_sI, gI_sL, gI_sA, gI_sM, gL_sI, gL_sL, gL_sA, gL_sM, aI_sI, aI_sL, aI_sA, aI_sM, aL_sI, aL_sL, aL_sA, aL_sM, BwordOf_0, BwordOf_8, BwordOf_10, BwordOf_18, BwordOf_20, BwordOf_28, BwordOf_30, BwordOf_38, BwordOf_40, BwordOf_48, BwordOf_50, BwordOf_58, BwordOf_60, BwordOf_68, BwordOf_71, BwordOf_79, BwordOf_82, BwordOf_90, BwordOf_93, BwordOf_101, BwordOf_104, BwordOf_112, BwordOf_115, BwordOf_123, BwordOf_126, BwordOf_134, BwordOf_137, BwordOf_145, BwordOf_148, BwordOf_156, BwordOf_159, BwordOf_167, BwordOf_170, BwordOf_178, BwordOf_181, BwordOf_189, BwordOf_192, BwordOf_200, BwordOf_203, BwordOf_211, BwordOf_214, BwordOf_222, BwordOf_225, BwordOf_233, BwordOf_236, BwordOf_244, BwordOf_247, BwordOf_255, BwordOf_260, BwordOf_262, oi_0, oi_1, oi_10, oi_11, oi_12, oi_13, oi_14, oi_15, oi_16, oi_17, oi_18, oi_19, oi_2, oi_20, oi_21, oi_22, oi_23, oi_3, oi_4, oi_5, oi_6, oi_7, oi_8, oi_9, oi_m2]; try dsimp only
                                              refine ⟨fun h44 => ?_, fun h44 => ?_⟩
                                              · refine hB _ _ _ _ _ (fun m45 hm45 => ?_)
                                                dsimp only [ugo, uwp, ust, uct, rfd, BwordOf, Nat.beq, lv_args, rlk, rs1, rs2, rdl, rky, rcd, rno, rsw, Value.category, List.filter, List.take, List.drop, List.reverse, List.reverseAux, List.cons_append, List.nil_append, Option.toList, Int.toNat, Int.reduceToNat, if_pos, if_neg, reduceIte, ↓reduceIte, Nat.reduceAdd, Nat.reduceEqDiff, Nat.reduceBEq, beq_self_eq_true, Bool.not_true, Bool.not_false, Bool.and_true, Bool.and_false, Bool.true_and, Bool.false_and, gI_sI, gI_sL, gI_sA, gI_sM, gL_sI, gL_sL, gL_sA, gL_sM, aI_sI, aI_sL, aI_sA, aI_sM, aL_sI, aL_sL, aL_sA, aL_sM, BwordOf_0, BwordOf_8, BwordOf_10, BwordOf_18, BwordOf_20, BwordOf_28, BwordOf_30, BwordOf_38, BwordOf_40, BwordOf_48, BwordOf_50, BwordOf_58, BwordOf_60, BwordOf_68, BwordOf_71, BwordOf_79, BwordOf_82, BwordOf_90, BwordOf_93, BwordOf_101, BwordOf_104, BwordOf_112, BwordOf_115, BwordOf_123, BwordOf_126, BwordOf_134, BwordOf_137, BwordOf_145, BwordOf_148, BwordOf_156, BwordOf_159, BwordOf_167, BwordOf_170, BwordOf_178, BwordOf_181, BwordOf_189, BwordOf_192, BwordOf_200, BwordOf_203, BwordOf_211, BwordOf_214, BwordOf_222, BwordOf_225, BwordOf_233, BwordOf_236, BwordOf_244, BwordOf_247, BwordOf_255, BwordOf_260, BwordOf_262, oi_0, oi_1, oi_10, oi_11, oi_12, oi_13, oi_14, oi_15, oi_16, oi_17, oi_18, oi_19, oi_2, oi_20, oi_21, oi_22, oi_23, oi_3, oi_4, oi_5, oi_6, oi_7, oi_8, oi_9, oi_m2]; try dsimp only
                                                refine ⟨fun h46 => ?_, fun h46 => ?_⟩
                                                · refine hB _ _ _ _ _ (fun m47 hm47 => ?_)
                                                  dsimp only [ugo, uwp, ust, uct, rfd, BwordOf, Nat.beq, lv_args, rlk, rs1, rs2, rdl, rky, rcd, rno, rsw, Value.category, List.filter, List.take, List.drop, List.reverse, List.reverseAux, List.cons_append, List.nil_append, Option.toList, Int.toNat, Int.reduceToNat, if_pos, if_neg, reduceIte, ↓reduceIte, Nat.reduceAdd, Nat.reduceEqDiff, Nat.reduceBEq, beq_self_eq_true, Bool.not_true, Bool.not_false, Bool.and_true, Bool.and_false, Bool.true_and, Bool.false_and, gI_sI, gI_sL, gI_sA, gI_sM, gL_sI, gL_sL, gL_sA, gL_sM, aI_sI, aI_sL, aI_sA, aI_sM, aL_sI, aL_sL, aL_sA, aL_sM, BwordOf_0, BwordOf_8, BwordOf_10, BwordOf_18, BwordOf_20, BwordOf_28, BwordOf_30, BwordOf_38, BwordOf_40, BwordOf_48, BwordOf_50, BwordOf_58, BwordOf_60, BwordOf_68, BwordOf_71, BwordOf_79, BwordOf_82, BwordOf_90, BwordOf_93, BwordOf_101, BwordOf_104, BwordOf_112, BwordOf_115, BwordOf_123, BwordOf_126, BwordOf_134, BwordOf_137, BwordOf_145, BwordOf_148, BwordOf_156, BwordOf_159, BwordOf_167, BwordOf_170, BwordOf_178, BwordOf_181, BwordOf_189, BwordOf_192, BwordOf_200, BwordOf_203, BwordOf_211, BwordOf_214, BwordOf_222, BwordOf_225, BwordOf_233, BwordOf_236, BwordOf_244, BwordOf_247, BwordOf_255, BwordOf_260, BwordOf_262, oi_0, oi_1, oi_10, oi_11, oi_12, oi_13, oi_14, oi_15, oi_16, oi_17, oi_18, oi_19, oi_2, oi_20, oi_21, oi_22, oi_23, oi_3, oi_4, oi_5, oi_6, oi_7, oi_8, oi_9, oi_m2]; try dsimp only
                                                  refine ⟨fun h48 => ?_, fun h48 => ?_⟩
                                                  · refine hB _ _ _ _ _ (fun m49 hm49 => ?_)
                                                    dsimp only [ugo, uwp, ust, uct, rfd, BwordOf, Nat.beq, lv_args, rlk, rs1, rs2, rdl, rky, rcd, rno, rsw, Value.category, List.filter, List.take, List.drop, List.reverse, List.reverseAux, List.cons_append, List.nil_append, Option.toList, Int.toNat, Int.reduceToNat, if_pos, if_neg, reduceIte, ↓reduceIte, Nat.reduceAdd, Nat.reduceEqDiff, Nat.reduceBEq, beq_self_eq_true, Bool.not_true, Bool.not_false, Bool.and_true, Bool.and_false, Bool.true_and, Bool.false_and, gI_sI, gI_sL, gI_sA, gI_sM, gL_sI, gL_sL, gL_sA, gL_sM, aI_sI, aI_sL, aI_sA, aI_sM, aL_sI, aL_sL, aL_sA, aL_sM, BwordOf_0, BwordOf_8, BwordOf_10, BwordOf_18, BwordOf_20, BwordOf_28, BwordOf_30, BwordOf_38, BwordOf_40, BwordOf_48, BwordOf_50, BwordOf_58, BwordOf_60, BwordOf_68, BwordOf_71, BwordOf_79, BwordOf_82, BwordOf_90, BwordOf_93, BwordOf_101, BwordOf_104, BwordOf_112, BwordOf_115, BwordOf_123, BwordOf_126, BwordOf_134, BwordOf_137, BwordOf_145, BwordOf_148, BwordOf_156, BwordOf_159, BwordOf_167, BwordOf_170, BwordOf_178, BwordOf_181, BwordOf_189, BwordOf_192, BwordOf_200, BwordOf_203, BwordOf_211, BwordOf_214, BwordOf_222, BwordOf_225, BwordOf_233, BwordOf_236, BwordOf_244, BwordOf_247, BwordOf_255, BwordOf_260, BwordOf_262, oi_0, oi_1, oi_10, oi_11, oi_12, oi_13, oi_14, oi_15, oi_16, oi_17, oi_18, oi_19, oi_2, oi_20, oi_21, oi_22, oi_23, oi_3, oi_4, oi_5, oi_6, oi_7, oi_8, oi_9, oi_m2]; try dsimp only
                                                    refine hB _ _ _ _ _ (fun m50 hm50 => ?_)
                                                    dsimp only [ugo, uwp, ust, uct, rfd, BwordOf, Nat.beq, lv_args, rlk, rs1, rs2, rdl, rky, rcd, rno, rsw, Value.category, List.filter, List.take, List.drop, List.reverse, List.reverseAux, List.cons_append, List.nil_append, Option.toList, Int.toNat, Int.reduceToNat, if_pos, if_neg, reduceIte, ↓reduceIte, Nat.reduceAdd, Nat.reduceEqDiff, Nat.reduceBEq, beq_self_eq_true, Bool.not_true, Bool.not_false, Bool.and_true, Bool.and_false, Bool.true_and, Bool.false_and, gI_sI, gI_sL, gI_sA, gI_sM, gL_sI, gL_sL, gL_sA, gL_sM, aI_sI, aI_sL, aI_sA, aI_sM, aL_sI, aL_sL, aL_sA, aL_sM, BwordOf_0, BwordOf_8, BwordOf_10, BwordOf_18, BwordOf_20, BwordOf_28, BwordOf_30, BwordOf_38, BwordOf_40, BwordOf_48, BwordOf_50, BwordOf_58, BwordOf_60, BwordOf_68, BwordOf_71, BwordOf_79, BwordOf_82, BwordOf_90, BwordOf_93, BwordOf_101, BwordOf_104, BwordOf_112, BwordOf_115, BwordOf_123, BwordOf_126, BwordOf_134, BwordOf_137, BwordOf_145, BwordOf_148, BwordOf_156, BwordOf_159, BwordOf_167, BwordOf_170, BwordOf_178, BwordOf_181, BwordOf_189, BwordOf_192, BwordOf_200, BwordOf_203, BwordOf_211, BwordOf_214, BwordOf_222, BwordOf_225, BwordOf_233, BwordOf_236, BwordOf_244, BwordOf_247, BwordOf_255, BwordOf_260, BwordOf_262, oi_0, oi_1, oi_10, oi_11, oi_12, oi_13, oi_14, oi_15, oi_16, oi_17, oi_18, oi_19, oi_2, oi_20, oi_21, oi_22, oi_23, oi_3, oi_4, oi_5, oi_6, oi_7, oi_8, oi_9, oi_m2]; try dsimp only
                                                    unfold Qv_wordOf
                                                    try dsimp only
                                                    refine ⟨rfl, congrArg (fun z => some (Value.int z)) ?_⟩
                                                    unfold woR
                                                    (try simp only [wox] at *)
                                                    first | (simp only [*]; done) | (simp [*]; done) | (rw [if_neg (by assumption), if_neg (by assumption), if_neg (by assumption), if_neg (by assumption), if_neg (by assumption), if_neg (by assumption), if_neg (by assumption), if_neg (by assumption), if_neg (by assumption), if_neg (by assumption), if_neg (by assumption), if_neg (by assumption), if_neg (by assumption), if_neg (by assumption), if_neg (by assumption), if_neg (by assumption), if_neg (by assumption), if_neg (by assumption), if_neg (by assumption), if_neg (by assumption), if_neg (by assumption), if_neg (by assumption), if_neg (by assumption), if_neg (by assumption)])
                                                  · refine hB _ _ _ _ _ (fun m51 hm51 => ?_)
                                                    dsimp only [ugo, uwp, ust, uct, rfd, BwordOf, Nat.beq, lv_args, rlk, rs1, rs2, rdl, rky, rcd, rno, rsw, Value.category, List.filter, List.take, List.drop, List.reverse, List.reverseAux, List.cons_append, List.nil_append, Option.toList, Int.toNat, Int.reduceToNat, if_pos, if_neg, reduceIte, ↓reduceIte, Nat.reduceAdd, Nat.reduceEqDiff, Nat.reduceBEq, beq_self_eq_true, Bool.not_true, Bool.not_false, Bool.and_true, Bool.and_false, Bool.true_and, Bool.false_and, gI_sI, gI_sL, gI_sA, gI_sM, gL_sI, gL_sL, gL_sA, gL_sM, aI_sI, aI_sL, aI_sA, aI_sM, aL_sI, aL_sL, aL_sA, aL_sM, BwordOf_0, BwordOf_8, BwordOf_10, BwordOf_18, BwordOf_20, BwordOf_28, BwordOf_30, BwordOf_38, BwordOf_40, BwordOf_48, BwordOf_50, BwordOf_58, BwordOf_60, BwordOf_68, BwordOf_71, BwordOf_79, BwordOf_82, BwordOf_90, BwordOf_93, BwordOf_101, BwordOf_104, BwordOf_112, BwordOf_115, BwordOf_123, BwordOf_126, BwordOf_134, BwordOf_137, BwordOf_145, BwordOf_148, BwordOf_156, BwordOf_159, BwordOf_167, BwordOf_170, BwordOf_178, BwordOf_181, BwordOf_189, BwordOf_192, BwordOf_200, BwordOf_203, BwordOf_211, BwordOf_214, BwordOf_222, BwordOf_225, BwordOf_233, BwordOf_236, BwordOf_244, BwordOf_247, BwordOf_255, BwordOf_260, BwordOf_262, oi_0, oi_1, oi_10, oi_11, oi_12, oi_13, oi_14, oi_15, oi_16, oi_17, oi_18, oi_19, oi_2, oi_20, oi_21, oi_22, oi_23, oi_3, oi_4, oi_5, oi_6, oi_7, oi_8, oi_9, oi_m2]; try dsimp only
                                                    refine hB _ _ _ _ _ (fun m52 hm52 => ?_)
                                                    dsimp only [ugo, uwp, ust, uct, rfd, BwordOf, Nat.beq, lv_args, rlk, rs1, rs2, rdl, rky, rcd, rno, rsw, Value.category, List.filter, List.take, List.drop, List.reverse, List.reverseAux, List.cons_append, List.nil_append, Option.toList, Int.toNat, Int.reduceToNat, if_pos, if_neg, reduceIte, ↓reduceIte, Nat.reduceAdd, Nat.reduceEqDiff, Nat.reduceBEq, beq_self_eq_true, Bool.not_true, Bool.not_false, Bool.and_true, Bool.and_false, Bool.true_and, Bool.false_and, gI_sI, gI_sL, gI_sA, gI_sM, gL_sI, gL_sL, gL_sA, gL_sM, aI_sI, aI_sL, aI_sA, aI_sM, aL_sI, aL_sL, aL_sA, aL_sM, BwordOf_0, BwordOf_8, BwordOf_10, BwordOf_18, BwordOf_20, BwordOf_28, BwordOf_30, BwordOf_38, BwordOf_40, BwordOf_48, BwordOf_50, BwordOf_58, BwordOf_60, BwordOf_68, BwordOf_71, BwordOf_79, BwordOf_82, BwordOf_90, BwordOf_93, BwordOf_101, BwordOf_104, BwordOf_112, BwordOf_115, BwordOf_123, BwordOf_126, BwordOf_134, BwordOf_137, BwordOf_145, BwordOf_148, BwordOf_156, BwordOf_159, BwordOf_167, BwordOf_170, BwordOf_178, BwordOf_181, BwordOf_189, BwordOf_192, BwordOf_200, BwordOf_203, BwordOf_211, BwordOf_214, BwordOf_222, BwordOf_225, BwordOf_233, BwordOf_236, BwordOf_244, BwordOf_247, BwordOf_255, BwordOf_260, BwordOf_262, oi_0, oi_1, oi_10, oi_11, oi_12, oi_13, oi_14, oi_15, oi_16, oi_17, oi_18, oi_19, oi_2, oi_20, oi_21, oi_22, oi_23, oi_3, oi_4, oi_5, oi_6, oi_7, oi_8, oi_9, oi_m2]; try dsimp only
                                                    unfold Qv_wordOf
                                                    try dsimp only
                                                    refine ⟨rfl, congrArg (fun z => some (Value.int z)) ?_⟩
                                                    unfold woR
                                                    (try simp only [wox] at *)
                                                    first | (simp only [*]; done) | (simp [*]; done) | (rw [if_neg (by assumption), if_neg (by assumption), if_neg (by assumption), if_neg (by assumption), if_neg (by assumption), if_neg (by assumption), if_neg (by assumption), if_neg (by assumption), if_neg (by assumption), if_neg (by assumption), if_neg (by assumption), if_neg (by assumption), if_neg (by assumption), if_neg (by assumption), if_neg (by assumption), if_neg (by assumption), if_neg (by assumption), if_neg (by assumption), if_neg (by assumption), if_neg (by assumption), if_neg (by assumption), if_neg (by assumption), if_neg (by assumption), if_neg (by assumption)])
                                                · refine hB _ _ _ _ _ (fun m53 hm53 => ?_)
                                                  dsimp only [ugo, uwp, ust, uct, rfd, BwordOf, Nat.beq, lv_args, rlk, rs1, rs2, rdl, rky, rcd, rno, rsw, Value.category, List.filter, List.take, List.drop, List.reverse, List.reverseAux, List.cons_append, List.nil_append, Option.toList, Int.toNat, Int.reduceToNat, if_pos, if_neg, reduceIte, ↓reduceIte, Nat.reduceAdd, Nat.reduceEqDiff, Nat.reduceBEq, beq_self_eq_true, Bool.not_true, Bool.not_false, Bool.and_true, Bool.and_false, Bool.true_and, Bool.false_and, gI_sI, gI_sL, gI_sA, gI_sM, gL_sI, gL_sL, gL_sA, gL_sM, aI_sI, aI_sL, aI_sA, aI_sM, aL_sI, aL_sL, aL_sA, aL_sM, BwordOf_0, BwordOf_8, BwordOf_10, BwordOf_18, BwordOf_20, BwordOf_28, BwordOf_30, BwordOf_38, BwordOf_40, BwordOf_48, BwordOf_50, BwordOf_58, BwordOf_60, BwordOf_68, BwordOf_71, BwordOf_79, BwordOf_82, BwordOf_90, BwordOf_93, BwordOf_101, BwordOf_104, BwordOf_112, BwordOf_115, BwordOf_123, BwordOf_126, BwordOf_134, BwordOf_137, BwordOf_145, BwordOf_148, BwordOf_156, BwordOf_159, BwordOf_167, BwordOf_170, BwordOf_178, BwordOf_181, BwordOf_189, BwordOf_192, BwordOf_200, BwordOf_203, BwordOf_211, BwordOf_214, BwordOf_222, BwordOf_225, BwordOf_233, BwordOf_236, BwordOf_244, BwordOf_247, BwordOf_255, BwordOf_260, BwordOf_262, oi_0, oi_1, oi_10, oi_11, oi_12, oi_13, oi_14, oi_15, oi_16, oi_17, oi_18, oi_19, oi_2, oi_20, oi_21, oi_22, oi_23, oi_3, oi_4, oi_5, oi_6, oi_7, oi_8, oi_9, oi_m2]; try dsimp only
                                                  unfold Qv_wordOf
                                                  try dsimp only
                                                  refine ⟨rfl, congrArg (fun z => some (Value.int z)) ?_⟩
                                                  unfold woR
                                                  (try simp only [wox] at *)
                                                  first | (simp only [*]; done) | (simp [*]; done) | (rw [if_neg (by assumption), if_neg (by assumption), if_neg (by assumption), if_neg (by assumption), if_neg (by assumption), if_neg (by assumption), if_neg (by assumption), if_neg (by assumption), if_neg (by assumption), if_neg (by assumption), if_neg (by assumption), if_neg (by assumption), if_neg (by assumption), if_neg (by assumption), if_neg (by assumption), if_neg (by assumption), if_neg (by assumption), if_neg (by assumption), if_neg (by assumption), if_neg (by assumption), if_neg (by assumption), if_neg (by assumption), if_neg (by assumption), if_neg (by assumption)])
                                              · refine hB _ _ _ _ _ (fun m54 hm54 => ?_)
                                                dsimp only [ugo, uwp, ust, uct, rfd, BwordOf, Nat.beq, lv_args, rlk, rs1, rs2, rdl, rky, rcd, rno, rsw, Value.category, List.filter, List.take, List.drop, List.reverse, List.reverseAux, List.cons_append, List.nil_append, Option.toList, Int.toNat, Int.reduceToNat, if_pos, if_neg, reduceIte, ↓reduceIte, Nat.reduceAdd, Nat.reduceEqDiff, Nat.reduceBEq, beq_self_eq_true, Bool.not_true, Bool.not_false, Bool.and_true, Bool.and_false, Bool.true_and, Bool.false_and, gI_sI, gI_sL, gI_sA, gI_sM, gL_sI, gL_sL, gL_sA, gL_sM, aI_sI, aI_sL, aI_sA, aI_sM, aL_sI, aL_sL, aL_sA, aL_sM, BwordOf_0, BwordOf_8, BwordOf_10, BwordOf_18, BwordOf_20, BwordOf_28, BwordOf_30, BwordOf_38, BwordOf_40, BwordOf_48, BwordOf_50, BwordOf_58, BwordOf_60, BwordOf_68, BwordOf_71, BwordOf_79, BwordOf_82, BwordOf_90, BwordOf_93, BwordOf_101, BwordOf_104, BwordOf_112, BwordOf_115, BwordOf_123, BwordOf_126, BwordOf_134, BwordOf_137, BwordOf_145, BwordOf_148, BwordOf_156, BwordOf_159, BwordOf_167, BwordOf_170, BwordOf_178, BwordOf_181, BwordOf_189, BwordOf_192, BwordOf_200, BwordOf_203, BwordOf_211, BwordOf_214, BwordOf_222, BwordOf_225, BwordOf_233, BwordOf_236, BwordOf_244, BwordOf_247, BwordOf_255, BwordOf_260, BwordOf_262, oi_0, oi_1, oi_10, oi_11, oi_12, oi_13, oi_14, oi_15, oi_16, oi_17, oi_18, oi_19, oi_2, oi_20, oi_21, oi_22, oi_23, oi_3, oi_4, oi_5, oi_6, oi_7, oi_8, oi_9, oi_m2]; try dsimp only
                                                unfold Qv_wordOf
                                                try dsimp only
                                                refine ⟨rfl, congrArg (fun z => some (Value.int z)) ?_⟩
                                                unfold woR
                                                (try simp only [wox] at *)
                                                first | (simp only [*]; done) | (simp [*]; done) | (rw [if_neg (by assumption), if_neg (by assumption), if_neg (by assumption), if_neg (by assumption), if_neg (by assumption), if_neg (by assumption), if_neg (by assumption), if_neg (by assumption), if_neg (by assumption), if_neg (by assumption), if_neg (by assumption), if_neg (by assumption), if_neg (by assumption), if_neg (by assumption), if_neg (by assumption), if_neg (by assumption), if_neg (by assumption), if_neg (by assumption), if_neg (by assumption), if_neg (by assumption), if_neg (by assumption), if_neg (by assumption), if_neg (by assumption), if_neg (by assumption)])
                                            · refine hB _ _ _ _ _ (fun m55 hm55 => ?_)
                                              dsimp only [ugo, uwp, ust, uct, rfd, BwordOf, Nat.beq, lv_args, rlk, rs1, rs2, rdl, rky, rcd, rno, rsw, Value.category, List.filter, List.take, List.drop, List.reverse, List.reverseAux, List.cons_append, List.nil_append, Option.toList, Int.toNat, Int.reduceToNat, if_pos, if_neg, reduceIte, ↓reduceIte, Nat.reduceAdd, Nat.reduceEqDiff, Nat.reduceBEq, beq_self_eq_true, Bool.not_true, Bool.not_false, Bool.and_true, Bool.and_false, Bool.true_and, Bool.false_and, gI_sI, gI_sL, gI_sA, gI_sM, gL_sI, gL_sL, gL_sA, gL_sM, aI_sI, aI_sL, aI_sA, aI_sM, aL_sI, aL_sL, aL_sA, aL_sM, BwordOf_0, BwordOf_8, BwordOf_10, BwordOf_18, BwordOf_20, BwordOf_28, BwordOf_30, BwordOf_38, BwordOf_40, BwordOf_48, BwordOf_50, BwordOf_58, BwordOf_60, BwordOf_68, BwordOf_71, BwordOf_79, BwordOf_82, BwordOf_90, BwordOf_93, BwordOf_101, BwordOf_104, BwordOf_112, BwordOf_115, BwordOf_123, BwordOf_126, BwordOf_134, BwordOf_137, BwordOf_145, BwordOf_148, BwordOf_156, BwordOf_159, BwordOf_167, BwordOf_170, BwordOf_178, BwordOf_181, BwordOf_189, BwordOf_192, BwordOf_200, BwordOf_203, BwordOf_211, BwordOf_214, BwordOf_222, BwordOf_225, BwordOf_233, BwordOf_236, BwordOf_244, BwordOf_247, BwordOf_255, BwordOf_260, BwordOf_262, oi_0, oi_1, oi_10, oi_11, oi_12, oi_13, oi_14, oi_15, oi_16, oi_17, oi_18, oi_19, oi_2, oi_20, oi_21, oi_22, oi_23, oi_3, oi_4, oi_5, oi_6, oi_7, oi_8, oi_9, oi_m2]; try dsimp only
                                              unfold Qv_wordOf
                                              try dsimp only
                                              refine ⟨rfl, congrArg (fun z => some (Value.int z)) ?_⟩
                                              unfold woR
                                              (try simp only [wox] at *)
                                              first | (simp only [*]; done) | (simp [*]; done) | (rw [if_neg (by assumption), if_neg (by assumption), if_neg (by assumption), if_neg (by assumption), if_neg (by assumption), if_neg (by assumption), if_neg (by assumption), if_neg (by assumption), if_neg (by assumption), if_neg (by assumption), if_neg (by assumption), if_neg (by assumption), if_neg (by assumption), if_neg (by assumption), if_neg (by assumption), if_neg (by assumption), if_neg (by assumption), if_neg (by assumption), if_neg (by assumption), if_neg (by assumption), if_neg (by assumption), if_neg (by assumption), if_neg (by assumption), if_neg (by assumption)])
                                          · refine hB _ _ _ _ _ (fun m56 hm56 => ?_)
                                            dsimp only [ugo, uwp, ust, uct, rfd, BwordOf, Nat.beq, lv_args, rlk, rs1, rs2, rdl, rky, rcd, rno, rsw, Value.category, List.filter, List.take, List.drop, List.reverse, List.reverseAux, List.cons_append, List.nil_append, Option.toList, Int.toNat, Int.reduceToNat, if_pos, if_neg, reduceIte, ↓reduceIte, Nat.reduceAdd, Nat.reduceEqDiff, Nat.reduceBEq, beq_self_eq_true, Bool.not_true, Bool.not_false, Bool.and_true, Bool.and_false, Bool.true_and, Bool.false_and, gI_sI, gI_sL, gI_sA, gI_sM, gL_sI, gL_sL, gL_sA, gL_sM, aI_sI, aI_sL, aI_sA, aI_sM, aL_sI, aL_sL, aL_sA, aL_sM, BwordOf_0, BwordOf_8, BwordOf_10, BwordOf_18, BwordOf_20, BwordOf_28, BwordOf_30, BwordOf_38, BwordOf_40, BwordOf_48, BwordOf_50, BwordOf_58, BwordOf_60, BwordOf_68, BwordOf_71, BwordOf_79, BwordOf_82, BwordOf_90, BwordOf_93, BwordOf_101, BwordOf_104, BwordOf_112, BwordOf_115, BwordOf_123, BwordOf_126, BwordOf_134, BwordOf_137, BwordOf_145, BwordOf_148, BwordOf_156, BwordOf_159, BwordOf_167, BwordOf_170, BwordOf_178, BwordOf_181, BwordOf_189, BwordOf_192, BwordOf_200, BwordOf_203, BwordOf_211, BwordOf_214, BwordOf_222, BwordOf_225, BwordOf_233, BwordOf_236, BwordOf_244, BwordOf_247, BwordOf_255, BwordOf_260, BwordOf_262, oi_0, oi_1, oi_10, oi_11, oi_12, oi_13, oi_14, oi_15, oi_16, oi_17, oi_18, oi_19, oi_2, oi_20, oi_21, oi_22, oi_23, oi_3, oi_4, oi_5, oi_6, oi_7, oi_8, oi_9, oi_m2]; try dsimp only
                                            unfold Qv_wordOf
                                            try dsimp only
                                            refine ⟨rfl, congrArg (fun z => some (Value.int z)) ?_⟩
                                            unfold woR
                                            (try simp only [wox] at *)
                                            first | (simp only [*]; done) | (simp [*]; done) | (rw [if_neg (by assumption), if_neg (by assumption), if_neg (by assumption), if_neg (by assumption), if_neg (by assumption), if_neg (by assumption), if_neg (by assumption), if_neg (by assumption), if_neg (by assumption), if_neg (by assumption), if_neg (by assumption), if_neg (by assumption), if_neg (by assumption), if_neg (by assumption), if_neg (by assumption), if_neg (by assumption), if_neg (by assumption), if_neg (by assumption), if_neg (by assumption), if_neg (by assumption), if_neg (by assumption), if_neg (by assumption), if_neg (by assumption), if_neg (by assumption)])
                                        · refine hB _ _ _ _ _ (fun m57 hm57 => ?_)
                                          dsimp only [ugo, uwp, ust, uct, rfd, BwordOf, Nat.beq, lv_args, rlk, rs1, rs2, rdl, rky, rcd, rno, rsw, Value.category, List.filter, List.take, List.drop, List.reverse, List.reverseAux, List.cons_append, List.nil_append, Option.toList, Int.toNat, Int.reduceToNat, if_pos, if_neg, reduceIte, ↓reduceIte, Nat.reduceAdd, Nat.reduceEqDiff, Nat.reduceBEq, beq_self_eq_true, Bool.not_true, Bool.not_false, Bool.and_true, Bool.and_false, Bool.true_and, Bool.false_and, gI_sI, gI_sL, gI_sA, gI_sM, gL_sI, gL_sL, gL_sA, gL_sM, aI_sI, aI_sL, aI_sA, aI_sM, aL_sI, aL_sL, aL_sA, aL_sM, BwordOf_0, BwordOf_8, BwordOf_10, BwordOf_18, BwordOf_20, BwordOf_28, BwordOf_30, BwordOf_38, BwordOf_40, BwordOf_48, BwordOf_50, BwordOf_58, BwordOf_60, BwordOf_68, BwordOf_71, BwordOf_79, BwordOf_82, BwordOf_90, BwordOf_93, BwordOf_101, BwordOf_104, BwordOf_112, BwordOf_115, BwordOf_123, BwordOf_126, BwordOf_134, BwordOf_137, BwordOf_145, BwordOf_148, BwordOf_156, BwordOf_159, BwordOf_167, BwordOf_170, BwordOf_178, BwordOf_181, BwordOf_189, BwordOf_192, BwordOf_200, BwordOf_203, BwordOf_211, BwordOf_214, BwordOf_222, BwordOf_225, BwordOf_233, BwordOf_236, BwordOf_244, BwordOf_247, BwordOf_255, BwordOf_260, BwordOf_262, oi_0, oi_1, oi_10, oi_11, oi_12, oi_13, oi_14, oi_15, oi_16, oi_17, oi_18, oi_19, oi_2, oi_20, oi_21, oi_22, oi_23, oi_3, oi_4, oi_5, oi_6, oi_7, oi_8, oi_9, oi_m2]; try dsimp only
                                          unfold Qv_wordOf
                                          try dsimp only
                                          refine ⟨rfl, congrArg (fun z => some (Value.int z)) ?_⟩
                                          unfold woR
                                          (try simp only [wox] at *)
                                          first | (simp only [*]; done) | (simp [*]; done) | (rw [if_neg (by assumption), if_neg (by assumption), if_neg (by assumption), if_neg (by assumption), if_neg (by assumption), if_neg (by assumption), if_neg (by assumption), if_neg (by assumption), if_neg (by assumption), if_neg (by assumption), if_neg (by assumption), if_neg (by assumption), if_neg (by assumption), if_neg (by assumption), if_neg (by assumption), if_neg (by assumption), if_neg (by assumption), if_neg (by assumption), if_neg (by assumption), if_neg (by assumption), if_neg (by assumption), if_neg (by assumption), if_neg (by assumption), if_neg (by assumption)])
                                      · refine hB _ _ _ _ _ (fun m58 hm58 => ?_)
                                        dsimp only [ugo, uwp, ust, uct, rfd, BwordOf, Nat.beq, lv_args, rlk, rs1, rs2, rdl, rky, rcd, rno, rsw, Value.category, List.filter, List.take, List.drop, List.reverse, List.reverseAux, List.cons_append, List.nil_append, Option.toList, Int.toNat, Int.reduceToNat, if_pos, if_neg, reduceIte, ↓reduceIte, Nat.reduceAdd, Nat.reduceEqDiff, Nat.reduceBEq, beq_self_eq_true, Bool.not_true, Bool.not_false, Bool.and_true, Bool.and_false, Bool.true_and, Bool.false_and, gI_sI, gI_sL, gI_sA, gI_sM, gL_sI, gL_sL, gL_sA, gL_sM, aI_sI, aI_sL, aI_sA, aI_sM, aL_sI, aL_sL, aL_sA, aL_sM, BwordOf_0, BwordOf_8, BwordOf_10, BwordOf_18, BwordOf_20, BwordOf_28, BwordOf_30, BwordOf_38, BwordOf_40, BwordOf_48, BwordOf_50, BwordOf_58, BwordOf_60, BwordOf_68, BwordOf_71, BwordOf_79, BwordOf_82, BwordOf_90, BwordOf_93, BwordOf_101, BwordOf_104, BwordOf_112, BwordOf_115, BwordOf_123, BwordOf_126, BwordOf_134, BwordOf_137, BwordOf_145, BwordOf_148, BwordOf_156, BwordOf_159, BwordOf_167, BwordOf_170, BwordOf_178, BwordOf_181, BwordOf_189, BwordOf_192, BwordOf_200, BwordOf_203, BwordOf_211, BwordOf_214, BwordOf_222, BwordOf_225, BwordOf_233, BwordOf_236, BwordOf_244, BwordOf_247, BwordOf_255, BwordOf_260, BwordOf_262, oi_0, oi_1, oi_10, oi_11, oi_12, oi_13, oi_14, oi_15, oi_16, oi_17, oi_18, oi_19, oi_2, oi_20, oi_21, oi_22, oi_23, oi_3, oi_4, oi_5, oi_6, oi_7, oi_8, oi_9, oi_m2]; try dsimp only
                                        unfold Qv_wordOf
                                        try dsimp only
                                        refine ⟨rfl, congrArg (fun z => some (Value.int z)) ?_⟩
                                        unfold woR
                                        (try simp only [wox] at *)
                                        first | (simp only [*]; done) | (simp [*]; done) | (rw [if_neg (by assumption), if_neg (by assumption), if_neg (by assumption), if_neg (by assumption), if_neg (by assumption), if_neg (by assumption), if_neg (by assumption), if_neg (by assumption), if_neg (by assumption), if_neg (by assumption), if_neg (by assumption), if_neg (by assumption), if_neg (by assumption), if_neg (by assumption), if_neg (by assumption), if_neg (by assumption), if_neg (by assumption), if_neg (by assumption), if_neg (by assumption), if_neg (by assumption), if_neg (by assumption), if_neg (by assumption), if_neg (by assumption), if_neg (by assumption)])
                                    · refine hB _ _ _ _ _ (fun m59 hm59 => ?_)
                                      dsimp only [ugo, uwp, ust, uct, rfd, BwordOf, Nat.beq, lv_args, rlk, rs1, rs2, rdl, rky, rcd, rno, rsw, Value.category, List.filter, List.take, List.drop, List.reverse, List.reverseAux, List.cons_append, List.nil_append, Option.toList, Int.toNat, Int.reduceToNat, if_pos, if_neg, reduceIte, ↓reduceIte, Nat.reduceAdd, Nat.reduceEqDiff, Nat.reduceBEq, beq_self_eq_true, Bool.not_true, Bool.not_false, Bool.and_true, Bool.and_false, Bool.true_and, Bool.false_and, gI_sI, gI_sL, gI_sA, gI_sM, gL_sI, gL_sL, gL_sA, gL_sM, aI_sI, aI_sL, aI_sA, aI_sM, aL_sI, aL_sL, aL_sA, aL_sM, BwordOf_0, BwordOf_8, BwordOf_10, BwordOf_18, BwordOf_20, BwordOf_28, BwordOf_30, BwordOf_38, BwordOf_40, BwordOf_48, BwordOf_50, BwordOf_58, BwordOf_60, BwordOf_68, BwordOf_71, BwordOf_79, BwordOf_82, BwordOf_90, BwordOf_93, BwordOf_101, BwordOf_104, BwordOf_112, BwordOf_115, BwordOf_123, BwordOf_126, BwordOf_134, BwordOf_137, BwordOf_145, BwordOf_148, BwordOf_156, BwordOf_159, BwordOf_167, BwordOf_170, BwordOf_178, BwordOf_181, BwordOf_189, BwordOf_192, BwordOf_200, BwordOf_203, BwordOf_211, BwordOf_214, BwordOf_222, BwordOf_225, BwordOf_233, BwordOf_236, BwordOf_244, BwordOf_247, BwordOf_255, BwordOf_260, BwordOf_262, oi_0, oi_1, oi_10, oi_11, oi_12, oi_13, oi_14, oi_15, oi_16, oi_17, oi_18, oi_19, oi_2, oi_20, oi_21, oi_22, oi_23, oi_3, oi_4, oi_5, oi_6, oi_7, oi_8, oi_9, oi_m2]; try dsimp only
                                      unfold Qv_wordOf
                                      try dsimp only
                                      refine ⟨rfl, congrArg (fun z => some (Value.int z)) ?_⟩
                                      unfold woR
                                      (try simp only [wox] at *)
                                      first | (simp only [*]; done) | (simp [*]; done) | (rw [if_neg (by assumption), if_neg (by assumption), if_neg (by assumption), if_neg (by assumption), if_neg (by assumption), if_neg (by assumption), if_neg (by assumption), if_neg (by assumption), if_neg (by assumption), if_neg (by assumption), if_neg (by assumption), if_neg (by assumption), if_neg (by assumption), if_neg (by assumption), if_neg (by assumption), if_neg (by assumption), if_neg (by assumption), if_neg (by assumption), if_neg (by assumption), if_neg (by assumption), if_neg (by assumption), if_neg (by assumption), if_neg (by assumption), if_neg (by assumption)])
                                  · refine hB _ _ _ _ _ (fun m60 hm60 => ?_)
                                    dsimp only [ugo, uwp, ust, uct, rfd, BwordOf, Nat.beq, lv_args, rlk, rs1, rs2, rdl, rky, rcd, rno, rsw, Value.category, List.filter, List.take, List.drop, List.reverse, List.reverseAux, List.cons_append, List.nil_append, Option.toList, Int.toNat, Int.reduceToNat, if_pos, if_neg, reduceIte, ↓reduceIte, Nat.reduceAdd, Nat.reduceEqDiff, Nat.reduceBEq, beq_self_eq_true, Bool.not_true, Bool.not_false, Bool.and_true, Bool.and_false, Bool.true_and, Bool.false_and, gI_sI, gI_sL, gI_sA, gI_sM, gL_sI, gL_sL, gL_sA, gL_sM, aI_sI, aI_sL, aI_sA, aI_sM, aL_sI, aL_sL, aL_sA, aL_sM, BwordOf_0, BwordOf_8, BwordOf_10, BwordOf_18, BwordOf_20, BwordOf_28, BwordOf_30, BwordOf_38, BwordOf_40, BwordOf_48, BwordOf_50, BwordOf_58, BwordOf_60, BwordOf_68, BwordOf_71, BwordOf_79, BwordOf_82, BwordOf_90, BwordOf_93, BwordOf_101, BwordOf_104, BwordOf_112, BwordOf_115, BwordOf_123, BwordOf_126, BwordOf_134, BwordOf_137, BwordOf_145, BwordOf_148, BwordOf_156, BwordOf_159, BwordOf_167, BwordOf_170, BwordOf_178, BwordOf_181, BwordOf_189, BwordOf_192, BwordOf_200, BwordOf_203, BwordOf_211, BwordOf_214, BwordOf_222, BwordOf_225, BwordOf_233, BwordOf_236, BwordOf_244, BwordOf_247, BwordOf_255, BwordOf_260, BwordOf_262, oi_0, oi_1, oi_10, oi_11, oi_12, oi_13, oi_14, oi_15, oi_16, oi_17, oi_18, oi_19, oi_2, oi_20, oi_21, oi_22, oi_23, oi_3, oi_4, oi_5, oi_6, oi_7, oi_8, oi_9, oi_m2]; try dsimp only
                                    unfold Qv_wordOf
                                    try dsimp only
                                    refine ⟨rfl, congrArg (fun z => some (Value.int z)) ?_⟩
                                    unfold woR
                                    (try simp only [wox] at *)
                                    first | (simp only [*]; done) | (simp [*]; done) | (rw [if_neg (by assumption), if_neg (by assumption), if_neg (by assumption), if_neg (by assumption), if_neg (by assumption), if_neg (by assumption), if_neg (by assumption), if_neg (by assumption), if_neg (by assumption), if_neg (by assumption), if_neg (by assumption), if_neg (by assumption), if_neg (by assumption), if_neg (by assumption), if_neg (by assumption), if_neg (by assumption), if_neg (by assumption), if_neg (by assumption), if_neg (by assumption), if_neg (by assumption), if_neg (by assumption), if_neg (by assumption), if_neg (by assumption), if_neg (by assumption)])
                                · refine hB _ _ _ _ _ (fun m61 hm61 => ?_)
                                  dsimp only [ugo, uwp, ust, uct, rfd, BwordOf, Nat.beq, lv_args, rlk, rs1, rs2, rdl, rky, rcd, rno, rsw, Value.category, List.filter, List.take, List.drop, List.reverse, List.reverseAux, List.cons_append, List.nil_append, Option.toList, Int.toNat, Int.reduceToNat, if_pos, if_neg, reduceIte, ↓reduceIte, Nat.reduceAdd, Nat.reduceEqDiff, Nat.reduceBEq, beq_self_eq_true, Bool.not_true, Bool.not_false, Bool.and_true, Bool.and_false, Bool.true_and, Bool.false_and, gI_sI, gI_sL, gI_sA, gI_sM, gL_sI, gL_sL, gL_sA, gL_sM, aI_sI, aI_sL, aI_sA, aI_sM, aL_sI, aL_sL, aL_sA, aL_sM, BwordOf_0, BwordOf_8, BwordOf_10, BwordOf_18, BwordOf_20, BwordOf_28, BwordOf_30, BwordOf_38, BwordOf_40, BwordOf_48, BwordOf_50, BwordOf_58, BwordOf_60, BwordOf_68, BwordOf_71, BwordOf_79, BwordOf_82, BwordOf_90, BwordOf_93, BwordOf_101, BwordOf_104, BwordOf_112, BwordOf_115, BwordOf_123, BwordOf_126, BwordOf_134, BwordOf_137, BwordOf_145, BwordOf_148, BwordOf_156, BwordOf_159, BwordOf_167, BwordOf_170, BwordOf_178, BwordOf_181, BwordOf_189, BwordOf_192, BwordOf_200, BwordOf_203, BwordOf_211, BwordOf_214, BwordOf_222, BwordOf_225, BwordOf_233, BwordOf_236, BwordOf_244, BwordOf_247, BwordOf_255, BwordOf_260, BwordOf_262, oi_0, oi_1, oi_10, oi_11, oi_12, oi_13, oi_14, oi_15, oi_16, oi_17, oi_18, oi_19, oi_2, oi_20, oi_21, oi_22, oi_23, oi_3, oi_4, oi_5, oi_6, oi_7, oi_8, oi_9, oi_m2]; try dsimp only
                                  unfold Qv_wordOf
                                  try dsimp only
                                  refine ⟨rfl, congrArg (fun z => some (Value.int z)) ?_⟩
                                  unfold woR
                                  (try simp only [wox] at *)
                                  first | (simp only [*]; done) | (simp [*]; done) | (rw [if_neg (by assumption), if_neg (by assumption), if_neg (by assumption), if_neg (by assumption), if_neg (by assumption), if_neg (by assumption), if_neg (by assumption), if_neg (by assumption), if_neg (by assumption), if_neg (by assumption), if_neg (by assumption), if_neg (by assumption), if_neg (by assumption), if_neg (by assumption), if_neg (by assumption), if_neg (by assumption), if_neg (by assumption), if_neg (by assumption), if_neg (by assumption), if_neg (by assumption), if_neg (by assumption), if_neg (by assumption), if_neg (by assumption), if_neg (by assumption)])
                              · refine hB _ _ _ _ _ (fun m62 hm62 => ?_)
                                dsimp only [ugo, uwp, ust, uct, rfd, BwordOf, Nat.beq, lv_args, rlk, rs1, rs2, rdl, rky, rcd, rno, rsw, Value.category, List.filter, List.take, List.drop, List.reverse, List.reverseAux, List.cons_append, List.nil_append, Option.toList, Int.toNat, Int.reduceToNat, if_pos, if_neg, reduceIte, ↓reduceIte, Nat.reduceAdd, Nat.reduceEqDiff, Nat.reduceBEq, beq_self_eq_true, Bool.not_true, Bool.not_false, Bool.and_true, Bool.and_false, Bool.true_and, Bool.false_and, gI_sI, gI_sL, gI_sA, gI_sM, gL_sI, gL_sL, gL_sA, gL_sM, aI_sI, aI_sL, aI_sA, aI_sM, aL_sI, aL_sL, aL_sA, aL_sM, BwordOf_0, BwordOf_8, BwordOf_10, BwordOf_18, BwordOf_20, BwordOf_28, BwordOf_30, BwordOf_38, BwordOf_40, BwordOf_48, BwordOf_50, BwordOf_58, BwordOf_60, BwordOf_68, BwordOf_71, BwordOf_79, BwordOf_82, BwordOf_90, BwordOf_93, BwordOf_101, BwordOf_104, BwordOf_112, BwordOf_115, BwordOf_123, BwordOf_126, BwordOf_134, BwordOf_137, BwordOf_145, BwordOf_148, BwordOf_156, BwordOf_159, BwordOf_167, BwordOf_170, BwordOf_178, BwordOf_181, BwordOf_189, BwordOf_192, BwordOf_200, BwordOf_203, BwordOf_211, BwordOf_214, BwordOf_222, BwordOf_225, BwordOf_233, BwordOf_236, BwordOf_244, BwordOf_247, BwordOf_255, BwordOf_260, BwordOf_262, oi_0, oi_1, oi_10, oi_11, oi_12, oi_13, oi_14, oi_15, oi_16, oi_17, oi_18, oi_19, oi_2, oi_20, oi_21, oi_22, oi_23, oi_3, oi_4, oi_5, oi_6, oi_7, oi_8, oi_9, oi_m2]; try dsimp only
                                unfold Qv_wordOf
                                try dsimp only
                                refine ⟨rfl, congrArg (fun z => some (Value.int z)) ?_⟩
                                unfold woR
                                (try simp only [wox] at *)
                                first | (simp only [*]; done) | (simp [*]; done) | (rw [if_neg (by assumption), if_neg (by assumption), if_neg (by assumption), if_neg (by assumption), if_neg (by assumption), if_neg (by assumption), if_neg (by assumption), if_neg (by assumption), if_neg (by assumption), if_neg (by assumption), if_neg (by assumption), if_neg (by assumption), if_neg (by assumption), if_neg (by assumption), if_neg (by assumption), if_neg (by assumption), if_neg (by assumption), if_neg (by assumption), if_neg (by assumption), if_neg (by assumption), if_neg (by assumption), if_neg (by assumption), if_neg (by assumption), if_neg (by assumption)])
                            · refine hB _ _ _ _ _ (fun m63 hm63 => ?_)
                              dsimp only [ugo, uwp, ust, uct, rfd, BwordOf, Nat.beq, lv_args, rlk, rs1, rs2, rdl, rky, rcd, rno, rsw, Value.category, List.filter, List.take, List.drop, List.reverse, List.reverseAux, List.cons_append, List.nil_append, Option.toList, Int.toNat, Int.reduceToNat, if_pos, if_neg, reduceIte, ↓reduceIte, Nat.reduceAdd, Nat.reduceEqDiff, Nat.reduceBEq, beq_self_eq_true, Bool.not_true, Bool.not_false, Bool.and_true, Bool.and_false, Bool.true_and, Bool.false_and, gI_sI, gI_sL, gI_sA, gI_sM, gL_sI, gL_sL, gL_sA, gL_sM, aI_sI, aI_sL, aI_sA, aI_sM, aL_sI, aL_sL, aL_sA, aL_sM, BwordOf_0, BwordOf_8, BwordOf_10, BwordOf_18, BwordOf_20, BwordOf_28, BwordOf_30, BwordOf_38, BwordOf_40, BwordOf_48, BwordOf_50, BwordOf_58, BwordOf_60, BwordOf_68, BwordOf_71, BwordOf_79, BwordOf_82, BwordOf_90, BwordOf_93, BwordOf_101, BwordOf_104, BwordOf_112, BwordOf_115, BwordOf_123, BwordOf_126, BwordOf_134, BwordOf_137, BwordOf_145, BwordOf_148, BwordOf_156, BwordOf_159, BwordOf_167, BwordOf_170, BwordOf_178, BwordOf_181, BwordOf_189, BwordOf_192, BwordOf_200, BwordOf_203, BwordOf_211, BwordOf_214, BwordOf_222, BwordOf_225, BwordOf_233, BwordOf_236, BwordOf_244, BwordOf_247, BwordOf_255, BwordOf_260, BwordOf_262, oi_0, oi_1, oi_10, oi_11, oi_12, oi_13, oi_14, oi_15, oi_16, oi_17, oi_18, oi_19, oi_2, oi_20, oi_21, oi_22, oi_23, oi_3, oi_4, oi_5, oi_6, oi_7, oi_8, oi_9, oi_m2]; try dsimp only
                              unfold Qv_wordOf
                              try dsimp only
                              refine ⟨rfl, congrArg (fun z => some (Value.int z)) ?_⟩
                              unfold woR
                              (try simp only [wox] at *)
                              first | (simp only [*]; done) | (simp [*]; done) | (rw [if_neg (by assumption), if_neg (by assumption), if_neg (by assumption), if_neg (by assumption), if_neg (by assumption), if_neg (by assumption), if_neg (by assumption), if_neg (by assumption), if_neg (by assumption), if_neg (by assumption), if_neg (by assumption), if_neg (by assumption), if_neg (by assumption), if_neg (by assumption), if_neg (by assumption), if_neg (by assumption), if_neg (by assumption), if_neg (by assumption), if_neg (by assumption), if_neg (by assumption), if_neg (by assumption), if_neg (by assumption), if_neg (by assumption), if_neg (by assumption)])
                          · refine hB _ _ _ _ _ (fun m64 hm64 => ?_)
                            dsimp only [ugo, uwp, ust, uct, rfd, BwordOf, Nat.beq, lv_args, rlk, rs1, rs2, rdl, rky, rcd, rno, rsw, Value.category, List.filter, List.take, List.drop, List.reverse, List.reverseAux, List.cons_append, List.nil_append, Option.toList, Int.toNat, Int.reduceToNat, if_pos, if_neg, reduceIte, ↓reduceIte, Nat.reduceAdd, Nat.reduceEqDiff, Nat.reduceBEq, beq_self_eq_true, Bool.not_true, Bool.not_false, Bool.and_true, Bool.and_false, Bool.true_and, Bool.false_and, gI_sI, gI_sL, gI_sA, gI_sM, gL_sI, gL_sL, gL_sA, gL_sM, aI_sI, aI_sL, aI_sA, aI_sM, aL_sI, aL_sL, aL_sA, aL_sM, BwordOf_0, BwordOf_8, BwordOf_10, BwordOf_18, BwordOf_20, BwordOf_28, BwordOf_30, BwordOf_38, BwordOf_40, BwordOf_48, BwordOf_50, BwordOf_58, BwordOf_60, BwordOf_68, BwordOf_71, BwordOf_79, BwordOf_82, BwordOf_90, BwordOf_93, BwordOf_101, BwordOf_104, BwordOf_112, BwordOf_115, BwordOf_123, BwordOf_126, BwordOf_134, BwordOf_137, BwordOf_145, BwordOf_148, BwordOf_156, BwordOf_159, BwordOf_167, BwordOf_170, BwordOf_178, BwordOf_181, BwordOf_189, BwordOf_192, BwordOf_200, BwordOf_203, BwordOf_211, BwordOf_214, BwordOf_222, BwordOf_225, BwordOf_233, BwordOf_236, BwordOf_244, BwordOf_247, BwordOf_255, BwordOf_260, BwordOf_262, oi_0, oi_1, oi_10, oi_11, oi_12, oi_13, oi_14, oi_15, oi_16, oi_17, oi_18, oi_19, oi_2, oi_20, oi_21, oi_22, oi_23, oi_3, oi_4, oi_5, oi_6, oi_7, oi_8, oi_9, oi_m2]; try dsimp only
                            unfold Qv_wordOf
                            try dsimp only
                            refine ⟨rfl, congrArg (fun z => some (Value.int z)) ?_⟩
                            unfold woR
                            (try simp only [wox] at *)
                            first | (simp only [*]; done) | (simp [*]; done) | (rw [if_neg (by assumption), if_neg (by assumption), if_neg (by assumption), if_neg (by assumption), if_neg (by assumption), if_neg (by assumption), if_neg (by assumption), if_neg (by assumption), if_neg (by assumption), if_neg (by assumption), if_neg (by assumption), if_neg (by assumption), if_neg (by assumption), if_neg (by assumption), if_neg (by assumption), if_neg (by assumption), if_neg (by assumption), if_neg (by assumption), if_neg (by assumption), if_neg (by assumption), if_neg (by assumption), if_neg (by assumption), if_neg (by assumption), if_neg (by assumption)])
                        · refine hB _ _ _ _ _ (fun m65 hm65 => ?_)
                          dsimp only [ugo, uwp, ust, uct, rfd, BwordOf, Nat.beq, lv_args, rlk, rs1, rs2, rdl, rky, rcd, rno, rsw, Value.category, List.filter, List.take, List.drop, List.reverse, List.reverseAux, List.cons_append, List.nil_append, Option.toList, Int.toNat, Int.reduceToNat, if_pos, if_neg, reduceIte, ↓reduceIte, Nat.reduceAdd, Nat.reduceEqDiff, Nat.reduceBEq, beq_self_eq_true, Bool.not_true, Bool.not_false, Bool.and_true, Bool.and_false, Bool.true_and, Bool.false_and, gI_sI, gI_sL, gI_sA, gI_sM, gL_sI, gL_sL, gL_sA, gL_sM, aI_sI, aI_sL, aI_sA, aI_sM, aL_sI, aL_sL, aL_sA, aL_sM, BwordOf_0, BwordOf_8, BwordOf_10, BwordOf_18, BwordOf_20, BwordOf_28, BwordOf_30, BwordOf_38, BwordOf_40, BwordOf_48, BwordOf_50, BwordOf_58, BwordOf_60, BwordOf_68, BwordOf_71, BwordOf_79, BwordOf_82, BwordOf_90, BwordOf_93, BwordOf_101, BwordOf_104, BwordOf_112, BwordOf_115, BwordOf_123, BwordOf_126, BwordOf_134, BwordOf_137, BwordOf_145, BwordOf_148, BwordOf_156, BwordOf_159, BwordOf_167, BwordOf_170, BwordOf_178, BwordOf_181, BwordOf_189, BwordOf_192, BwordOf_200, BwordOf_203, BwordOf_211, BwordOf_214, BwordOf_222, BwordOf_225, BwordOf_233, BwordOf_236, BwordOf_244, BwordOf_247, BwordOf_255, BwordOf_260, BwordOf_262, oi_0, oi_1, oi_10, oi_11, oi_12, oi_13, oi_14, oi_15, oi_16, oi_17, oi_18, oi_19, oi_2, oi_20, oi_21, oi_22, oi_23, oi_3, oi_4, oi_5, oi_6, oi_7, oi_8, oi_9, oi_m2]; try dsimp only
                          unfold Qv_wordOf
                          try dsimp only
                          refine ⟨rfl, congrArg (fun z => some (Value.int z)) ?_⟩
                          unfold woR
                          (try simp only [wox] at *)
                          first | (simp only [*]; done) | (simp [*]; done) | (rw [if_neg (by assumption), if_neg (by assumption), if_neg (by assumption), if_neg (by assumption), if_neg (by assumption), if_neg (by assumption), if_neg (by assumption), if_neg (by assumption), if_neg (by assumption), if_neg (by assumption), if_neg (by assumption), if_neg (by assumption), if_neg (by assumption), if_neg (by assumption), if_neg (by assumption), if_neg (by assumption), if_neg (by assumption), if_neg (by assumption), if_neg (by assumption), if_neg (by assumption), if_neg (by assumption), if_neg (by assumption), if_neg (by assumption), if_neg (by assumption)])
                      · refine hB _ _ _ _ _ (fun m66 hm66 => ?_)
                        dsimp only [ugo, uwp, ust, uct, rfd, BwordOf, Nat.beq, lv_args, rlk, rs1, rs2, rdl, rky, rcd, rno, rsw, Value.category, List.filter, List.take, List.drop, List.reverse, List.reverseAux, List.cons_append, List.nil_append, Option.toList, Int.toNat, Int.reduceToNat, if_pos, if_neg, reduceIte, ↓reduceIte, Nat.reduceAdd, Nat.reduceEqDiff, Nat.reduceBEq, beq_self_eq_true, Bool.not_true, Bool.not_false, Bool.and_true, Bool.and_false, Bool.true_and, Bool.false_and, gI_sI, gI_sL, gI_sA, gI_sM, gL_sI, gL_sL, gL_sA, gL_sM, aI_sI, aI_sL, aI_sA, aI_sM, aL_sI, aL_sL, aL_sA, aL_sM, BwordOf_0, BwordOf_8, BwordOf_10, BwordOf_18, BwordOf_20, BwordOf_28, BwordOf_30, BwordOf_38, BwordOf_40, BwordOf_48, BwordOf_50, BwordOf_58, BwordOf_60, BwordOf_68, BwordOf_71, BwordOf_79, BwordOf_82, BwordOf_90, BwordOf_93, BwordOf_101, BwordOf_104, BwordOf_112, BwordOf_115, BwordOf_123, BwordOf_126, BwordOf_134, BwordOf_137, BwordOf_145, BwordOf_148, BwordOf_156, BwordOf_159, BwordOf_167, BwordOf_170, BwordOf_178, BwordOf_181, BwordOf_189, BwordOf_192, BwordOf_200, BwordOf_203, BwordOf_211, BwordOf_214, BwordOf_222, BwordOf_225, BwordOf_233, BwordOf_236, BwordOf_244, BwordOf_247, BwordOf_255, BwordOf_260, BwordOf_262, oi_0, oi_1, oi_10, oi_11, oi_12, oi_13, oi_14, oi_15, oi_16, oi_17, oi_18, oi_19, oi_2, oi_20, oi_21, oi_22, oi_23, oi_3, oi_4, oi_5, oi_6, oi_7, oi_8, oi_9, oi_m2]; try dsimp only
                        unfold Qv_wordOf
                        try dsimp only
                        refine ⟨rfl, congrArg (fun z => some (Value.int z)) ?_⟩
                        unfold woR
                        (try simp only [wox] at *)
                        first | (simp only [*]; done) | (simp [*]; done) | (rw [if_neg (by assumption), if_neg (by assumption), if_neg (by assumption), if_neg (by assumption), if_neg (by assumption), if_neg (by assumption), if_neg (by assumption), if_neg (by assumption), if_neg (by assumption), if_neg (by assumption), if_neg (by assumption), if_neg (by assumption), if_neg (by assumption), if_neg (by assumption), if_neg (by assumption), if_neg (by assumption), if_neg (by assumption), if_neg (by assumption), if_neg (by assumption), if_neg (by assumption), if_neg (by assumption), if_neg (by assumption), if_neg (by assumption), if_neg (by assumption)])
                    · refine hB _ _ _ _ _ (fun m67 hm67 => ?_)
                      dsimp only [ugo, uwp, ust, uct, rfd, BwordOf, Nat.beq, lv_args, rlk, rs1, rs2, rdl, rky, rcd, rno, rsw, Value.category, List.filter, List.take, List.drop, List.reverse, List.reverseAux, List.cons_append, List.nil_append, Option.toList, Int.toNat, Int.reduceToNat, if_pos, if_neg, reduceIte, ↓reduceIte, Nat.reduceAdd, Nat.reduceEqDiff, Nat.reduceBEq, beq_self_eq_true, Bool.not_true, Bool.not_false, Bool.and_true, Bool.and_false, Bool.true_and, Bool.false_and, gI_sI, gI_sL, gI_sA, gI_sM, gL_sI, gL_sL, gL_sA, gL_sM, aI_sI, aI_sL, aI_sA, aI_sM, aL_sI, aL_sL, aL_sA, aL_sM, BwordOf_0, BwordOf_8, BwordOf_10, BwordOf_18, BwordOf_20, BwordOf_28, BwordOf_30, BwordOf_38, BwordOf_40, BwordOf_48, BwordOf_50, BwordOf_58, BwordOf_60, BwordOf_68, BwordOf_71, BwordOf_79, BwordOf_82, BwordOf_90, BwordOf_93, BwordOf_101, BwordOf_104, BwordOf_112, BwordOf_115, BwordOf_123, BwordOf_126, BwordOf_134, BwordOf_137, BwordOf_145, BwordOf_148, BwordOf_156, BwordOf_159, BwordOf_167, BwordOf_170, BwordOf_178, BwordOf_181, BwordOf_189, BwordOf_192, BwordOf_200, BwordOf_203, BwordOf_211, BwordOf_214, BwordOf_222, BwordOf_225, BwordOf_233, BwordOf_236, BwordOf_244, BwordOf_247, BwordOf_255, BwordOf_260, BwordOf_262, oi_0, oi_1, oi_10, oi_11, oi_12, oi_13, oi_14, oi_15, oi_16, oi_17, oi_18, oi_19, oi_2, oi_20, oi_21, oi_22, oi_23, oi_3, oi_4, oi_5, oi_6, oi_7, oi_8, oi_9, oi_m2]; try dsimp only
                      unfold Qv_wordOf
                      try dsimp only
                      refine ⟨rfl, congrArg (fun z => some (Value.int z)) ?_⟩
                      unfold woR
                      (try simp only [wox] at *)
                      first | (simp only [*]; done) | (simp [*]; done) | (rw [if_neg (by assumption), if_neg (by assumption), if_neg (by assumption), if_neg (by assumption), if_neg (by assumption), if_neg (by assumption), if_neg (by assumption), if_neg (by assumption), if_neg (by assumption), if_neg (by assumption), if_neg (by assumption), if_neg (by assumption), if_neg (by assumption), if_neg (by assumption), if_neg (by assumption), if_neg (by assumption), if_neg (by assumption), if_neg (by assumption), if_neg (by assumption), if_neg (by assumption), if_neg (by assumption), if_neg (by assumption), if_neg (by assumption), if_neg (by assumption)])
                  · refine hB _ _ _ _ _ (fun m68 hm68 => ?_)
                    dsimp only [ugo, uwp, ust, uct, rfd, BwordOf, Nat.beq, lv_args, rlk, rs1, rs2, rdl, rky, rcd, rno, rsw, Value.category, List.filter, List.take, List.drop, List.reverse, List.reverseAux, List.cons_append, List.nil_append, Option.toList, Int.toNat, Int.reduceToNat, if_pos, if_neg, reduceIte, ↓reduceIte, Nat.reduceAdd, Nat.reduceEqDiff, Nat.reduceBEq, beq_self_eq_true, Bool.not_true, Bool.not_false, Bool.and_true, Bool.and_false, Bool.true_and, Bool.false_and, gI_sI, gI_sL, gI_sA, gI_sM, gL_sI, gL_sL, gL_sA, gL_sM, aI_sI, aI_sL, aI_sA, aI_sM, aL_sI, aL_sL, aL_sA, aL_sM, BwordOf_0, BwordOf_8, BwordOf_10, BwordOf_18, BwordOf_20, BwordOf_28, BwordOf_30, BwordOf_38, BwordOf_40, BwordOf_48, BwordOf_50, BwordOf_58, BwordOf_60, BwordOf_68, BwordOf_71, BwordOf_79, BwordOf_82, BwordOf_90, BwordOf_93, BwordOf_101, BwordOf_104, BwordOf_112, BwordOf_115, BwordOf_123, BwordOf_126, BwordOf_134, BwordOf_137, BwordOf_145, BwordOf_148, BwordOf_156, BwordOf_159, BwordOf_167, BwordOf_170, BwordOf_178, BwordOf_181, BwordOf_189, BwordOf_192, BwordOf_200, BwordOf_203, BwordOf_211, BwordOf_214, BwordOf_222, BwordOf_225, BwordOf_233, BwordOf_236, BwordOf_244, BwordOf_247, BwordOf_255, BwordOf_260, BwordOf_262, oi_0, oi_1, oi_10, oi_11, oi_12, oi_13, oi_14, oi_15, oi_16, oi_17, oi_18, oi_19, oi_2, oi_20, oi_21, oi_22, oi_23, oi_3, oi_4, oi_5, oi_6, oi_7, oi_8, oi_9, oi_m2]; try dsimp only
                    unfold Qv_wordOf
                    try dsimp only
                    refine ⟨rfl, congrArg (fun z => some (Value.int z)) ?_⟩
                    unfold woR
                    (try simp only [wox] at *)
                    first | (simp only [*]; done) | (simp [*]; done) | (rw [if_neg (by assumption), if_neg (by assumption), if_neg (by assumption), if_neg (by assumption), if_neg (by assumption), if_neg (by assumption), if_neg (by assumption), if_neg (by assumption), if_neg (by assumption), if_neg (by assumption), if_neg (by assumption), if_neg (by assumption), if_neg (by assumption), if_neg (by assumption), if_neg (by assumption), if_neg (by assumption), if_neg (by assumption), if_neg (by assumption), if_neg (by assumption), if_neg (by assumption), if_neg (by assumption), if_neg (by assumption), if_neg (by assumption), if_neg (by assumption)])
                · refine hB _ _ _ _ _ (fun m69 hm69 => ?_)
                  dsimp only [ugo, uwp, ust, uct, rfd, BwordOf, Nat.beq, lv_args, rlk, rs1, rs2, rdl, rky, rcd, rno, rsw, Value.category, List.filter, List.take, List.drop, List.reverse, List.reverseAux, List.cons_append, List.nil_append, Option.toList, Int.toNat, Int.reduceToNat, if_pos, if_neg, reduceIte, ↓reduceIte, Nat.reduceAdd, Nat.reduceEqDiff, Nat.reduceBEq, beq_self_eq_true, Bool.not_true, Bool.not_false, Bool.and_true, Bool.and_false, Bool.true_and, Bool.false_and, gI_sI, gI_sL, gI_sA, gI_sM, gL_sI, gL_sL, gL_sA, gL_sM, aI_sI, aI_sL, aI_sA, aI_sM, aL_sI, aL_sL, aL_sA, aL_sM, BwordOf_0, BwordOf_8, BwordOf_10, BwordOf_18, BwordOf_20, BwordOf_28, BwordOf_30, BwordOf_38, BwordOf_40, BwordOf_48, BwordOf_50, BwordOf_58, BwordOf_60, BwordOf_68, BwordOf_71, BwordOf_79, BwordOf_82, BwordOf_90, BwordOf_93, BwordOf_101, BwordOf_104, BwordOf_112, BwordOf_115, BwordOf_123, BwordOf_126, BwordOf_134, BwordOf_137, BwordOf_145, BwordOf_148, BwordOf_156, BwordOf_159, BwordOf_167, BwordOf_170, BwordOf_178, BwordOf_181, BwordOf_189, BwordOf_192, BwordOf_200, BwordOf_203, BwordOf_211, BwordOf_214, BwordOf_222, BwordOf_225, BwordOf_233, BwordOf_236, BwordOf_244, BwordOf_247, BwordOf_255, BwordOf_260, BwordOf_262, oi_0, oi_1, oi_10, oi_11, oi_12, oi_13, oi_14, oi_15, oi_16, oi_17, oi_18, oi_19, oi_2, oi_20, oi_21, oi_22, oi_23, oi_3, oi_4, oi_5, oi_6, oi_7, oi_8, oi_9, oi_m2]; try dsimp only
                  unfold Qv_wordOf
                  try dsimp only
                  refine ⟨rfl, congrArg (fun z => some (Value.int z)) ?_⟩
                  unfold woR
                  (try simp only [wox] at *)
                  first | (simp only [*]; done) | (simp [*]; done) | (rw [if_neg (by assumption), if_neg (by assumption), if_neg (by assumption), if_neg (by assumption), if_neg (by assumption), if_neg (by assumption), if_neg (by assumption), if_neg (by assumption), if_neg (by assumption), if_neg (by assumption), if_neg (by assumption), if_neg (by assumption), if_neg (by assumption), if_neg (by assumption), if_neg (by assumption), if_neg (by assumption), if_neg (by assumption), if_neg (by assumption), if_neg (by assumption), if_neg (by assumption), if_neg (by assumption), if_neg (by assumption), if_neg (by assumption), if_neg (by assumption)])
              · refine hB _ _ _ _ _ (fun m70 hm70 => ?_)
                dsimp only [ugo, uwp, ust, uct, rfd, BwordOf, Nat.beq, lv_args, rlk, rs1, rs2, rdl, rky, rcd, rno, rsw, Value.category, List.filter, List.take, List.drop, List.reverse, List.reverseAux, List.cons_append, List.nil_append, Option.toList, Int.toNat, Int.reduceToNat, if_pos, if_neg, reduceIte, ↓reduceIte, Nat.reduceAdd, Nat.reduceEqDiff, Nat.reduceBEq, beq_self_eq_true, Bool.not_true, Bool.not_false, Bool.and_true, Bool.and_false, Bool.true_and, Bool.false_and, gI_sI, gI_sL, gI_sA, gI_sM, gL_sI, gL_sL, gL_sA, gL_sM, aI_sI, aI_sL, aI_sA, aI_sM, aL_sI, aL_sL, aL_sA, aL_sM, BwordOf_0, BwordOf_8, BwordOf_10, BwordOf_18, BwordOf_20, BwordOf_28, BwordOf_30, BwordOf_38, BwordOf_40, BwordOf_48, BwordOf_50, BwordOf_58, BwordOf_60, BwordOf_68, BwordOf_71, BwordOf_79, BwordOf_82, BwordOf_90, BwordOf_93, BwordOf_101, BwordOf_104, BwordOf_112, BwordOf_115, BwordOf_123, BwordOf_126, BwordOf_134, BwordOf_137, BwordOf_145, BwordOf_148, BwordOf_156, BwordOf_159, BwordOf_167, BwordOf_170, BwordOf_178, BwordOf_181, BwordOf_189, BwordOf_192, BwordOf_200, BwordOf_203, BwordOf_211, BwordOf_214, BwordOf_222, BwordOf_225, BwordOf_233, BwordOf_236, BwordOf_244, BwordOf_247, BwordOf_255, BwordOf_260, BwordOf_262, oi_0, oi_1, oi_10, oi_11, oi_12, oi_13, oi_14, oi_15, oi_16, oi_17, oi_18, oi_19, oi_2, oi_20, oi_21, oi_22, oi_23, oi_3, oi_4, oi_5, oi_6, oi_7, oi_8, oi_9, oi_m2]; try dsimp only
                unfold Qv_wordOf
                try dsimp only
                refine ⟨rfl, congrArg (fun z => some (Value.int z)) ?_⟩
                unfold woR
                (try simp only [wox] at *)
                first | (simp only [*]; done) | (simp [*]; done) | (rw [if_neg (by assumption), if_neg (by assumption), if_neg (by assumption), if_neg (by assumption), if_neg (by assumption), if_neg (by assumption), if_neg (by assumption), if_neg (by assumption), if_neg (by assumption), if_neg (by assumption), if_neg (by assumption), if_neg (by assumption), if_neg (by assumption), if_neg (by assumption), if_neg (by assumption), if_neg (by assumption), if_neg (by assumption), if_neg (by assumption), if_neg (by assumption), if_neg (by assumption), if_neg (by assumption), if_neg (by assumption), if_neg (by assumption), if_neg (by assumption)])
            · refine hB _ _ _ _ _ (fun m71 hm71 => ?_)
              dsimp only [ugo, uwp, ust, uct, rfd, BwordOf, Nat.beq, lv_args, rlk, rs1, rs2, rdl, rky, rcd, rno, rsw, Value.category, List.filter, List.take, List.drop, List.reverse, List.reverseAux, List.cons_append, List.nil_append, Option.toList, Int.toNat, Int.reduceToNat, if_pos, if_neg, reduceIte, ↓reduceIte, Nat.reduceAdd, Nat.reduceEqDiff, Nat.reduceBEq, beq_self_eq_true, Bool.not_true, Bool.not_false, Bool.and_true, Bool.and_false, Bool.true_and, Bool.false_and, gI_sI, gI_sL, gI_sA, gI_sM, gL_sI, gL_sL, gL_sA, gL_sM, aI_sI, aI_sL, aI_sA, aI_sM, aL_sI, aL_sL, aL_sA, aL_sM, BwordOf_0, BwordOf_8, BwordOf_10, BwordOf_18, BwordOf_20, BwordOf_28, BwordOf_30, BwordOf_38, BwordOf_40, BwordOf_48, BwordOf_50, BwordOf_58, BwordOf_60, BwordOf_68, BwordOf_71, BwordOf_79, BwordOf_82, BwordOf_90, BwordOf_93, BwordOf_101, BwordOf_104, BwordOf_112, BwordOf_115, BwordOf_123, BwordOf_126, BwordOf_134, BwordOf_137, BwordOf_145, BwordOf_148, BwordOf_156, BwordOf_159, BwordOf_167, BwordOf_170, BwordOf_178, BwordOf_181, BwordOf_189, BwordOf_192, BwordOf_200, BwordOf_203, BwordOf_211, BwordOf_214, BwordOf_222, BwordOf_225, BwordOf_233, BwordOf_236, BwordOf_244, BwordOf_247, BwordOf_255, BwordOf_260, BwordOf_262, oi_0, oi_1, oi_10, oi_11, oi_12, oi_13, oi_14, oi_15, oi_16, oi_17, oi_18, oi_19, oi_2, oi_20, oi_21, oi_22, oi_23, oi_3, oi_4, oi_5, oi_6, oi_7, oi_8, oi_9, oi_m2]; try dsimp only
              unfold Qv_wordOf
              try dsimp only
              refine ⟨rfl, congrArg (fun z => some (Value.int z)) ?_⟩
              unfold woR
              (try simp only [wox] at *)
              first | (simp only [*]; done) | (simp [*]; done) | (rw [if_neg (by assumption), if_neg (by assumption), if_neg (by assumption), if_neg (by assumption), if_neg (by assumption), if_neg (by assumption), if_neg (by assumption), if_neg (by assumption), if_neg (by assumption), if_neg (by assumption), if_neg (by assumption), if_neg (by assumption), if_neg (by assumption), if_neg (by assumption), if_neg (by assumption), if_neg (by assumption), if_neg (by assumption), if_neg (by assumption), if_neg (by assumption), if_neg (by assumption), if_neg (by assumption), if_neg (by assumption), if_neg (by assumption), if_neg (by assumption)])
          · refine hB _ _ _ _ _ (fun m72 hm72 => ?_)
            dsimp only [ugo, uwp, ust, uct, rfd, BwordOf, Nat.beq, lv_args, rlk, rs1, rs2, rdl, rky, rcd, rno, rsw, Value.category, List.filter, List.take, List.drop, List.reverse, List.reverseAux, List.cons_append, List.nil_append, Option.toList, Int.toNat, Int.reduceToNat, if_pos, if_neg, reduceIte, ↓reduceIte, Nat.reduceAdd, Nat.reduceEqDiff, Nat.reduceBEq, beq_self_eq_true, Bool.not_true, Bool.not_false, Bool.and_true, Bool.and_false, Bool.true_and, Bool.false_and, gI_sI, gI_sL, gI_sA, gI_sM, gL_sI, gL_sL, gL_sA, gL_sM, aI_sI, aI_sL, aI_sA, aI_sM, aL_sI, aL_sL, aL_sA, aL_sM, BwordOf_0, BwordOf_8, BwordOf_10, BwordOf_18, BwordOf_20, BwordOf_28, BwordOf_30, BwordOf_38, BwordOf_40, BwordOf_48, BwordOf_50, BwordOf_58, BwordOf_60, BwordOf_68, BwordOf_71, BwordOf_79, BwordOf_82, BwordOf_90, BwordOf_93, BwordOf_101, BwordOf_104, BwordOf_112, BwordOf_115, BwordOf_123, BwordOf_126, BwordOf_134, BwordOf_137, BwordOf_145, BwordOf_148, BwordOf_156, BwordOf_159, BwordOf_167, BwordOf_170, BwordOf_178, BwordOf_181, BwordOf_189, BwordOf_192, BwordOf_200, BwordOf_203, BwordOf_211, BwordOf_214, BwordOf_222, BwordOf_225, BwordOf_233, BwordOf_236, BwordOf_244, BwordOf_247, BwordOf_255, BwordOf_260, BwordOf_262, oi_0, oi_1, oi_10, oi_11, oi_12, oi_13, oi_14, oi_15, oi_16, oi_17, oi_18, oi_19, oi_2, oi_20, oi_21, oi_22, oi_23, oi_3, oi_4, oi_5, oi_6, oi_7, oi_8, oi_9, oi_m2]; try dsimp only
            unfold Qv_wordOf
            try dsimp only
            refine ⟨rfl, congrArg (fun z => some (Value.int z)) ?_⟩
            unfold woR
            (try simp only [wox] at *)
            first | (simp only [*]; done) | (simp [*]; done) | (rw [if_neg (by assumption), if_neg (by assumption), if_neg (by assumption), if_neg (by assumption), if_neg (by assumption), if_neg (by assumption), if_neg (by assumption), if_neg (by assumption), if_neg (by assumption), if_neg (by assumption), if_neg (by assumption), if_neg (by assumption), if_neg (by assumption), if_neg (by assumption), if_neg (by assumption), if_neg (by assumption), if_neg (by assumption), if_neg (by assumption), if_neg (by assumption), if_neg (by assumption), if_neg (by assumption), if_neg (by assumption), if_neg (by assumption), if_neg (by assumption)])
        · refine hB _ _ _ _ _ (fun m73 hm73 => ?_)
          dsimp only [ugo, uwp, ust, uct, rfd, BwordOf, Nat.beq, lv_args, rlk, rs1, rs2, rdl, rky, rcd, rno, rsw, Value.category, List.filter, List.take, List.drop, List.reverse, List.reverseAux, List.cons_append, List.nil_append, Option.toList, Int.toNat, Int.reduceToNat, if_pos, if_neg, reduceIte, ↓reduceIte, Nat.reduceAdd, Nat.reduceEqDiff, Nat.reduceBEq, beq_self_eq_true, Bool.not_true, Bool.not_false, Bool.and_true, Bool.and_false, Bool.true_and, Bool.false_and, gI_sI, gI_sL, gI_sA, gI_sM, gL_sI, gL_sL, gL_sA, gL_sM, aI_sI, aI_sL, aI_sA, aI_sM, aL_sI, aL_sL, aL_sA, aL_sM, BwordOf_0, BwordOf_8, BwordOf_10, BwordOf_18, BwordOf_20, BwordOf_28, BwordOf_30, BwordOf_38, BwordOf_40, BwordOf_48, BwordOf_50, BwordOf_58, BwordOf_60, BwordOf_68, BwordOf_71, BwordOf_79, BwordOf_82, BwordOf_90, BwordOf_93, BwordOf_101, BwordOf_104, BwordOf_112, BwordOf_115, BwordOf_123, BwordOf_126, BwordOf_134, BwordOf_137, BwordOf_145, BwordOf_148, BwordOf_156, BwordOf_159, BwordOf_167, BwordOf_170, BwordOf_178, BwordOf_181, BwordOf_189, BwordOf_192, BwordOf_200, BwordOf_203, BwordOf_211, BwordOf_214, BwordOf_222, BwordOf_225, BwordOf_233, BwordOf_236, BwordOf_244, BwordOf_247, BwordOf_255, BwordOf_260, BwordOf_262, oi_0, oi_1, oi_10, oi_11, oi_12, oi_13, oi_14, oi_15, oi_16, oi_17, oi_18, oi_19, oi_2, oi_20, oi_21, oi_22, oi_23, oi_3, oi_4, oi_5, oi_6, oi_7, oi_8, oi_9, oi_m2]; try dsimp only
          unfold Qv_wordOf
          try dsimp only
          refine ⟨rfl, congrArg (fun z => some (Value.int z)) ?_⟩
          unfold woR
          (try simp only [wox] at *)
          first | (simp only [*]; done) | (simp [*]; done) | (rw [if_neg (by assumption), if_neg (by assumption), if_neg (by assumption), if_neg (by assumption), if_neg (by assumption), if_neg (by assumption), if_neg (by assumption), if_neg (by assumption), if_neg (by assumption), if_neg (by assumption), if_neg (by assumption), if_neg (by assumption), if_neg (by assumption), if_neg (by assumption), if_neg (by assumption), if_neg (by assumption), if_neg (by assumption), if_neg (by assumption), if_neg (by assumption), if_neg (by assumption), if_neg (by assumption), if_neg (by assumption), if_neg (by assumption), if_neg (by assumption)])
      · refine hB _ _ _ _ _ (fun m74 hm74 => ?_)
        dsimp only [ugo, uwp, ust, uct, rfd, BwordOf, Nat.beq, lv_args, rlk, rs1, rs2, rdl, rky, rcd, rno, rsw, Value.category, List.filter, List.take, List.drop, List.reverse, List.reverseAux, List.cons_append, List.nil_append, Option.toList, Int.toNat, Int.reduceToNat, if_pos, if_neg, reduceIte, ↓reduceIte, Nat.reduceAdd, Nat.reduceEqDiff, Nat.reduceBEq, beq_self_eq_true, Bool.not_true, Bool.not_false, Bool.and_true, Bool.and_false, Bool.true_and, Bool.false_and, gI_sI, gI_sL, gI_sA, gI_sM, gL_sI, gL_sL, gL_sA, gL_sM, aI_sI, aI_sL, aI_sA, aI_sM, aL_sI, aL_sL, aL_sA, aL_sM, BwordOf_0, BwordOf_8, BwordOf_10, BwordOf_18, BwordOf_20, BwordOf_28, BwordOf_30, BwordOf_38, BwordOf_40, BwordOf_48, BwordOf_50, BwordOf_58, BwordOf_60, BwordOf_68, BwordOf_71, BwordOf_79, BwordOf_82, BwordOf_90, BwordOf_93, BwordOf_101, BwordOf_104, BwordOf_112, BwordOf_115, BwordOf_123, BwordOf_126, BwordOf_134, BwordOf_137, BwordOf_145, BwordOf_148, BwordOf_156, BwordOf_159, BwordOf_167, BwordOf_170, BwordOf_178, BwordOf_181, BwordOf_189, BwordOf_192, BwordOf_200, BwordOf_203, BwordOf_211, BwordOf_214, BwordOf_222, BwordOf_225, BwordOf_233, BwordOf_236, BwordOf_244, BwordOf_247, BwordOf_255, BwordOf_260, BwordOf_262, oi_0, oi_1, oi_10, oi_11, oi_12, oi_13, oi_14, oi_15, oi_16, oi_17, oi_18, oi_19, oi_2, oi_20, oi_21, oi_22, oi_23, oi_3, oi_4, oi_5, oi_6, oi_7, oi_8, oi_9, oi_m2]; try dsimp only
        unfold Qv_wordOf
        try dsimp only
        refine ⟨rfl, congrArg (fun z => some (Value.int z)) ?_⟩
        unfold woR
        (try simp only [wox] at *)
        first | (simp only [*]; done) | (simp [*]; done) | (rw [if_neg (by assumption), if_neg (by assumption), if_neg (by assumption), if_neg (by assumption), if_neg (by assumption), if_neg (by assumption), if_neg (by assumption), if_neg (by assumption), if_neg (by assumption), if_neg (by assumption), if_neg (by assumption), if_neg (by assumption), if_neg (by assumption), if_neg (by assumption), if_neg (by assumption), if_neg (by assumption), if_neg (by assumption), if_neg (by assumption), if_neg (by assumption), if_neg (by assumption), if_neg (by assumption), if_neg (by assumption), if_neg (by assumption), if_neg (by assumption)])
    · refine hB _ _ _ _ _ (fun m75 hm75 => ?_)
      dsimp only [ugo, uwp, ust, uct, rfd, BwordOf, Nat.beq, lv_args, rlk, rs1, rs2, rdl, rky, rcd, rno, rsw, Value.category, List.filter, List.take, List.drop, List.reverse, List.reverseAux, List.cons_append, List.nil_append, Option.toList, Int.toNat, Int.reduceToNat, if_pos, if_neg, reduceIte, ↓reduceIte, Nat.reduceAdd, Nat.reduceEqDiff, Nat.reduceBEq, beq_self_eq_true, Bool.not_true, Bool.not_false, Bool.and_true, Bool.and_false, Bool.true_and, Bool.false_and, gI_sI, gI_sL, gI_sA, gI_sM, gL_sI, gL_sL, gL_sA, gL_sM, aI_sI, aI_sL, aI_sA, aI_sM, aL_sI, aL_sL, aL_sA, aL_sM, BwordOf_0, BwordOf_8, BwordOf_10, BwordOf_18, BwordOf_20, BwordOf_28, BwordOf_30, BwordOf_38, BwordOf_40, BwordOf_48, BwordOf_50, BwordOf_58, BwordOf_60, BwordOf_68, BwordOf_71, BwordOf_79, BwordOf_82, BwordOf_90, BwordOf_93, BwordOf_101, BwordOf_104, BwordOf_112, BwordOf_115, BwordOf_123, BwordOf_126, BwordOf_134, BwordOf_137, BwordOf_145, BwordOf_148, BwordOf_156, BwordOf_159, BwordOf_167, BwordOf_170, BwordOf_178, BwordOf_181, BwordOf_189, BwordOf_192, BwordOf_200, BwordOf_203, BwordOf_211, BwordOf_214, BwordOf_222, BwordOf_225, BwordOf_233, BwordOf_236, BwordOf_244, BwordOf_247, BwordOf_255, BwordOf_260, BwordOf_262, oi_0, oi_1, oi_10, oi_11, oi_12, oi_13, oi_14, oi_15, oi_16, oi_17, oi_18, oi_19, oi_2, oi_20, oi_21, oi_22, oi_23, oi_3, oi_4, oi_5, oi_6, oi_7, oi_8, oi_9, oi_m2]; try dsimp only
      unfold Qv_wordOf
      try dsimp only
      refine ⟨rfl, congrArg (fun z => some (Value.int z)) ?_⟩
      unfold woR
      (try simp only [wox] at *)
      first | (simp only [*]; done) | (simp [*]; done) | (rw [if_neg (by assumption), if_neg (by assumption), if_neg (by assumption), if_neg (by assumption), if_neg (by assumption), if_neg (by assumption), if_neg (by assumption), if_neg (by assumption), if_neg (by assumption), if_neg (by assumption), if_neg (by assumption), if_neg (by assumption), if_neg (by assumption), if_neg (by assumption), if_neg (by assumption), if_neg (by assumption), if_neg (by assumption), if_neg (by assumption), if_neg (by assumption), if_neg (by assumption), if_neg (by assumption), if_neg (by assumption), if_neg (by assumption), if_neg (by assumption)])
  next => exact hP.elim
theorem w_wordOf : UMet 8 (fun _ _ => True) Qw_wordOf := fun A1 σ _ w τ h hP => v_wordOf A1 σ hP w τ h
def Pv_word (x : TxY) (i : Int) : UP1 := fun A1 σ => match A1 with
  | [.int t] => TxR σ x ∧ (gI σ 13).toInt = i ∧ 0 ≤ i ∧ i < x.2
  | _ => False
def Qv_word (x : TxY) (i : Int) : UQ1 := fun A1 σ w τ => match A1 with
  | [.int t] => w = none ∧ LkR t.toNatClampNeg σ τ ∧ (gI τ 13).toInt = (nmY x (x.2 - i).toNat i []).1 ∧ (10 < (nmY x (x.2 - i).toNat i []).1 - i → aI τ 3 t.toNatClampNeg = 6) ∧ (¬ 10 < (nmY x (x.2 - i).toNat i []).1 - i → tkR (aI τ 3 t.toNatClampNeg).toInt (aI τ 6 t.toNatClampNeg).toInt (wcY (nmY x (x.2 - i).toNat i []).2))
  | _ => False
def Qw_word : UQ1 := fun A1 σ w τ => ∀ (x : TxY) (i : Int), Pv_word x i A1 σ → Qv_word x i A1 σ w τ
set_option maxRecDepth 100000 in
set_option maxHeartbeats 4000000 in
theorem v_word (x : TxY) (i : Int) : UMet 7 (Pv_word x i) (Qv_word x i) := by
  refine UMet.by Bword [(3, (fun _ _ => True), Qw_at), (5, (fun _ _ => True), Qw_isDigit), (4, (fun _ _ => True), Qw_isLetter), (8, (fun _ _ => True), Qw_wordOf)] rfl (ucc w_at (ucc w_isDigit (ucc w_isLetter (ucc w_wordOf uc0)))) ?_
  intro A1 σ hP K hB hW
  unfold Pv_word at hP
  split at hP
  next t =>
    obtain ⟨hT0, hs0, hi0, hi1⟩ := hP
    have t99 : ∀ (N : Nat) (Y : RS) (e : Int) (l : List Int) (n : Int32) (h : Int64) (lo : Int32), LkR t.toNatClampNeg σ Y → TxR Y x → (gI Y 13).toInt = e → i ≤ e → e ≤ x.2 → nmY x (x.2 - e).toNat e l = nmY x (x.2 - i).toNat i [] → n.toInt = l.length → (l.length : Int) = e - i → alY l → (l.length ≤ 8 → h.toInt = vlY 256 l) → ¬ (isLY (btY x e) ∨ isDY (btY x e)) → K N 99 [(0, .ref 1000), (1, .int t), (2, .int n), (3, .long h), (5, .int lo)] [] Y := by
      intro N Y e l n h lo hL hT hs hie hex hN hn hl hA hH hnc
      have hN2 : nmY x (x.2 - i).toNat i [] = (e, l) := by rw [← hN]; exact nm_no hnc
      have hx := hT.2.1.2
      have c8 := i32_c hn 8
      have c10 := i32_c hn 10
      have e8 : (8 : Int32).toInt = 8 := rfl
      have e10 : (10 : Int32).toInt = 10 := rfl
      rw [e8] at c8
      rw [e10] at c10
      refine hB _ _ _ _ _ (fun m1 hm1 => ?_)
      dsimp only [ugo, uwp, ust, uct, rfd, Bword, Nat.beq, lv_args, rlk, rs1, rs2, rdl, rky, rcd, rno, rsw, Value.category, List.filter, List.take, List.drop, List.reverse, List.reverseAux, List.cons_append, List.nil_append, Option.toList, Int.toNat, Int.reduceToNat, if_pos, if_neg, reduceIte, ↓reduceIte, Nat.reduceAdd, Nat.reduceEqDiff, Nat.reduceBEq, beq_self_eq_true, Bool.not_true, Bool.not_false, Bool.and_true, Bool.and_false, Bool.true_and, Bool.false_and, gI_sI, gI_sL, gI_sA, gI_sM, gL_sI, gL_sL, gL_sA, gL_sM, aI_sI, aI_sL, aI_sA, aI_sM, aL_sI, aL_sL, aL_sA, aL_sM, Bword_0, Bword_7, Bword_22, Bword_37, Bword_43, Bword_61, Bword_67, Bword_83, Bword_99, Bword_125, Bword_130, Bword_131, Bword_138, Bword_143, Bword_148, Bword_155, Bword_156, oi_0, oi_1, oi_10, oi_4, oi_6, oi_8, oi_m2]; try dsimp only
      intro p2
      intro p3
      refine ⟨fun h4 => ?_, fun h4 => ?_⟩
      · refine hB _ _ _ _ _ (fun m5 hm5 => ?_)
        dsimp only [ugo, uwp, ust, uct, rfd, Bword, Nat.beq, lv_args, rlk, rs1, rs2, rdl, rky, rcd, rno, rsw, Value.category, List.filter, List.take, List.drop, List.reverse, List.reverseAux, List.cons_append, List.nil_append, Option.toList, Int.toNat, Int.reduceToNat, if_pos, if_neg, reduceIte, ↓reduceIte, Nat.reduceAdd, Nat.reduceEqDiff, Nat.reduceBEq, beq_self_eq_true, Bool.not_true, Bool.not_false, Bool.and_true, Bool.and_false, Bool.true_and, Bool.false_and, gI_sI, gI_sL, gI_sA, gI_sM, gL_sI, gL_sL, gL_sA, gL_sM, aI_sI, aI_sL, aI_sA, aI_sM, aL_sI, aL_sL, aL_sA, aL_sM, Bword_0, Bword_7, Bword_22, Bword_37, Bword_43, Bword_61, Bword_67, Bword_83, Bword_99, Bword_125, Bword_130, Bword_131, Bword_138, Bword_143, Bword_148, Bword_155, Bword_156, oi_0, oi_1, oi_10, oi_4, oi_6, oi_8, oi_m2]; try dsimp only
        refine hB _ _ _ _ _ (fun m6 hm6 => ?_)
        dsimp only [ugo, uwp, ust, uct, rfd, Bword, Nat.beq, lv_args, rlk, rs1, rs2, rdl, rky, rcd, rno, rsw, Value.category, List.filter, List.take, List.drop, List.reverse, List.reverseAux, List.cons_append, List.nil_append, Option.toList, Int.toNat, Int.reduceToNat, if_pos, if_neg, reduceIte, ↓reduceIte, Nat.reduceAdd, Nat.reduceEqDiff, Nat.reduceBEq, beq_self_eq_true, Bool.not_true, Bool.not_false, Bool.and_true, Bool.and_false, Bool.true_and, Bool.false_and, gI_sI, gI_sL, gI_sA, gI_sM, gL_sI, gL_sL, gL_sA, gL_sM, aI_sI, aI_sL, aI_sA, aI_sM, aL_sI, aL_sL, aL_sA, aL_sM, Bword_0, Bword_7, Bword_22, Bword_37, Bword_43, Bword_61, Bword_67, Bword_83, Bword_99, Bword_125, Bword_130, Bword_131, Bword_138, Bword_143, Bword_148, Bword_155, Bword_156, oi_0, oi_1, oi_10, oi_4, oi_6, oi_8, oi_m2]; try dsimp only
        intro p7
        refine ⟨fun h8 => ?_, fun h8 => ?_⟩
        · refine hB _ _ _ _ _ (fun m9 hm9 => ?_)
          dsimp only [ugo, uwp, ust, uct, rfd, Bword, Nat.beq, lv_args, rlk, rs1, rs2, rdl, rky, rcd, rno, rsw, Value.category, List.filter, List.take, List.drop, List.reverse, List.reverseAux, List.cons_append, List.nil_append, Option.toList, Int.toNat, Int.reduceToNat, if_pos, if_neg, reduceIte, ↓reduceIte, Nat.reduceAdd, Nat.reduceEqDiff, Nat.reduceBEq, beq_self_eq_true, Bool.not_true, Bool.not_false, Bool.and_true, Bool.and_false, Bool.true_and, Bool.false_and, gI_sI, gI_sL, gI_sA, gI_sM, gL_sI, gL_sL, gL_sA, gL_sM, aI_sI, aI_sL, aI_sA, aI_sM, aL_sI, aL_sL, aL_sA, aL_sM, Bword_0, Bword_7, Bword_22, Bword_37, Bword_43, Bword_61, Bword_67, Bword_83, Bword_99, Bword_125, Bword_130, Bword_131, Bword_138, Bword_143, Bword_148, Bword_155, Bword_156, oi_0, oi_1, oi_10, oi_4, oi_6, oi_8, oi_m2]; try dsimp only
          refine ⟨trivial, fun w10 τ10 hq10 => ?_⟩
          obtain ⟨rfl, rfl⟩ := hq10 trivial
          dsimp only [Option.toList, List.cons_append, List.nil_append, Nat.beq, gI_sI, gI_sL, gI_sA, gI_sM, gL_sI, gL_sL, gL_sA, gL_sM, aI_sI, aI_sL, aI_sA, aI_sM, aL_sI, aL_sL, aL_sA, aL_sM]
          refine hB _ _ _ _ _ (fun m11 hm11 => ?_)
          dsimp only [ugo, uwp, ust, uct, rfd, Bword, Nat.beq, lv_args, rlk, rs1, rs2, rdl, rky, rcd, rno, rsw, Value.category, List.filter, List.take, List.drop, List.reverse, List.reverseAux, List.cons_append, List.nil_append, Option.toList, Int.toNat, Int.reduceToNat, if_pos, if_neg, reduceIte, ↓reduceIte, Nat.reduceAdd, Nat.reduceEqDiff, Nat.reduceBEq, beq_self_eq_true, Bool.not_true, Bool.not_false, Bool.and_true, Bool.and_false, Bool.true_and, Bool.false_and, gI_sI, gI_sL, gI_sA, gI_sM, gL_sI, gL_sL, gL_sA, gL_sM, aI_sI, aI_sL, aI_sA, aI_sM, aL_sI, aL_sL, aL_sA, aL_sM, Bword_0, Bword_7, Bword_22, Bword_37, Bword_43, Bword_61, Bword_67, Bword_83, Bword_99, Bword_125, Bword_130, Bword_131, Bword_138, Bword_143, Bword_148, Bword_155, Bword_156, oi_0, oi_1, oi_10, oi_4, oi_6, oi_8, oi_m2]; try dsimp only
          refine ⟨fun h12 => ?_, fun h12 => ?_⟩
          · refine hB _ _ _ _ _ (fun m13 hm13 => ?_)
            dsimp only [ugo, uwp, ust, uct, rfd, Bword, Nat.beq, lv_args, rlk, rs1, rs2, rdl, rky, rcd, rno, rsw, Value.category, List.filter, List.take, List.drop, List.reverse, List.reverseAux, List.cons_append, List.nil_append, Option.toList, Int.toNat, Int.reduceToNat, if_pos, if_neg, reduceIte, ↓reduceIte, Nat.reduceAdd, Nat.reduceEqDiff, Nat.reduceBEq, beq_self_eq_true, Bool.not_true, Bool.not_false, Bool.and_true, Bool.and_false, Bool.true_and, Bool.false_and, gI_sI, gI_sL, gI_sA, gI_sM, gL_sI, gL_sL, gL_sA, gL_sM, aI_sI, aI_sL, aI_sA, aI_sM, aL_sI, aL_sL, aL_sA, aL_sM, Bword_0, Bword_7, Bword_22, Bword_37, Bword_43, Bword_61, Bword_67, Bword_83, Bword_99, Bword_125, Bword_130, Bword_131, Bword_138, Bword_143, Bword_148, Bword_155, Bword_156, oi_0, oi_1, oi_10, oi_4, oi_6, oi_8, oi_m2]; try dsimp only
            intro p14
            intro p15
            unfold Qv_word
            try dsimp only
            have n10 : n ≤ 10 := by lia
            have m10 := c10.1.mp n10
            have n8 : n ≤ 8 := by lia
            have m8 := c8.1.mp n8
            rw [hN2]
            refine ⟨rfl, (by repeat (first | exact LkR.rf | exact hL | refine LkR.i ?_ | refine LkR.m ?_ | refine LkR.a ?_ (by decide) | refine LkR.u3 ?_ | refine LkR.u6 ?_)), hs, ?_, ?_⟩
            · intro q
              exact absurd q (by dsimp only; omega)
            · intro _
              have hw_ := (wo_c l h hA (by omega) (hH (by omega))).resolve_left (fun q => absurd q.1 (by lia))
              dsimp only [Nat.beq, gI_sI, gI_sL, gI_sA, gI_sM, gL_sI, gL_sL, gL_sA, gL_sM, aI_sI, aI_sL, aI_sA, aI_sM, aL_sI, aL_sL, aL_sA, aL_sM]; simp only [upd_eq]
              exact Or.inr (Or.inr (Or.inr (Or.inr (Or.inr (Or.inl ⟨rfl, Int32.le_iff_toInt_le.mp hw_.1, hw_.2.1, hw_.2.2⟩)))))
          · refine hB _ _ _ _ _ (fun m16 hm16 => ?_)
            dsimp only [ugo, uwp, ust, uct, rfd, Bword, Nat.beq, lv_args, rlk, rs1, rs2, rdl, rky, rcd, rno, rsw, Value.category, List.filter, List.take, List.drop, List.reverse, List.reverseAux, List.cons_append, List.nil_append, Option.toList, Int.toNat, Int.reduceToNat, if_pos, if_neg, reduceIte, ↓reduceIte, Nat.reduceAdd, Nat.reduceEqDiff, Nat.reduceBEq, beq_self_eq_true, Bool.not_true, Bool.not_false, Bool.and_true, Bool.and_false, Bool.true_and, Bool.false_and, gI_sI, gI_sL, gI_sA, gI_sM, gL_sI, gL_sL, gL_sA, gL_sM, aI_sI, aI_sL, aI_sA, aI_sM, aL_sI, aL_sL, aL_sA, aL_sM, Bword_0, Bword_7, Bword_22, Bword_37, Bword_43, Bword_61, Bword_67, Bword_83, Bword_99, Bword_125, Bword_130, Bword_131, Bword_138, Bword_143, Bword_148, Bword_155, Bword_156, oi_0, oi_1, oi_10, oi_4, oi_6, oi_8, oi_m2]; try dsimp only
            unfold Qv_word
            try dsimp only
            have n10 : n ≤ 10 := by lia
            have m10 := c10.1.mp n10
            have n8 : n ≤ 8 := by lia
            have m8 := c8.1.mp n8
            rw [hN2]
            refine ⟨rfl, (by repeat (first | exact LkR.rf | exact hL | refine LkR.i ?_ | refine LkR.m ?_ | refine LkR.a ?_ (by decide) | refine LkR.u3 ?_ | refine LkR.u6 ?_)), hs, ?_, ?_⟩
            · intro q
              exact absurd q (by dsimp only; omega)
            · intro _
              dsimp only [Nat.beq, gI_sI, gI_sL, gI_sA, gI_sM, gL_sI, gL_sL, gL_sA, gL_sM, aI_sI, aI_sL, aI_sA, aI_sM, aL_sI, aL_sL, aL_sA, aL_sM]; simp only [upd_eq]
              rw [show wcY l = 80 from (wo_c l h hA (by omega) (hH (by omega))).elim (fun q => q.2) (fun q => absurd q.1 (by lia))]
              exact Or.inr (Or.inr (Or.inl ⟨rfl, rfl⟩))
        · refine hB _ _ _ _ _ (fun m17 hm17 => ?_)
          dsimp only [ugo, uwp, ust, uct, rfd, Bword, Nat.beq, lv_args, rlk, rs1, rs2, rdl, rky, rcd, rno, rsw, Value.category, List.filter, List.take, List.drop, List.reverse, List.reverseAux, List.cons_append, List.nil_append, Option.toList, Int.toNat, Int.reduceToNat, if_pos, if_neg, reduceIte, ↓reduceIte, Nat.reduceAdd, Nat.reduceEqDiff, Nat.reduceBEq, beq_self_eq_true, Bool.not_true, Bool.not_false, Bool.and_true, Bool.and_false, Bool.true_and, Bool.false_and, gI_sI, gI_sL, gI_sA, gI_sM, gL_sI, gL_sL, gL_sA, gL_sM, aI_sI, aI_sL, aI_sA, aI_sM, aL_sI, aL_sL, aL_sA, aL_sM, Bword_0, Bword_7, Bword_22, Bword_37, Bword_43, Bword_61, Bword_67, Bword_83, Bword_99, Bword_125, Bword_130, Bword_131, Bword_138, Bword_143, Bword_148, Bword_155, Bword_156, oi_0, oi_1, oi_10, oi_4, oi_6, oi_8, oi_m2]; try dsimp only
          refine hB _ _ _ _ _ (fun m18 hm18 => ?_)
          dsimp only [ugo, uwp, ust, uct, rfd, Bword, Nat.beq, lv_args, rlk, rs1, rs2, rdl, rky, rcd, rno, rsw, Value.category, List.filter, List.take, List.drop, List.reverse, List.reverseAux, List.cons_append, List.nil_append, Option.toList, Int.toNat, Int.reduceToNat, if_pos, if_neg, reduceIte, ↓reduceIte, Nat.reduceAdd, Nat.reduceEqDiff, Nat.reduceBEq, beq_self_eq_true, Bool.not_true, Bool.not_false, Bool.and_true, Bool.and_false, Bool.true_and, Bool.false_and, gI_sI, gI_sL, gI_sA, gI_sM, gL_sI, gL_sL, gL_sA, gL_sM, aI_sI, aI_sL, aI_sA, aI_sM, aL_sI, aL_sL, aL_sA, aL_sM, Bword_0, Bword_7, Bword_22, Bword_37, Bword_43, Bword_61, Bword_67, Bword_83, Bword_99, Bword_125, Bword_130, Bword_131, Bword_138, Bword_143, Bword_148, Bword_155, Bword_156, oi_0, oi_1, oi_10, oi_4, oi_6, oi_8, oi_m2]; try dsimp only
          refine ⟨fun h19 => absurd h19 (by decide), fun h19 => ?_⟩
          clear h19
          refine hB _ _ _ _ _ (fun m20 hm20 => ?_)
          dsimp only [ugo, uwp, ust, uct, rfd, Bword, Nat.beq, lv_args, rlk, rs1, rs2, rdl, rky, rcd, rno, rsw, Value.category, List.filter, List.take, List.drop, List.reverse, List.reverseAux, List.cons_append, List.nil_append, Option.toList, Int.toNat, Int.reduceToNat, if_pos, if_neg, reduceIte, ↓reduceIte, Nat.reduceAdd, Nat.reduceEqDiff, Nat.reduceBEq, beq_self_eq_true, Bool.not_true, Bool.not_false, Bool.and_true, Bool.and_false, Bool.true_and, Bool.false_and, gI_sI, gI_sL, gI_sA, gI_sM, gL_sI, gL_sL, gL_sA, gL_sM, aI_sI, aI_sL, aI_sA, aI_sM, aL_sI, aL_sL, aL_sA, aL_sM, Bword_0, Bword_7, Bword_22, Bword_37, Bword_43, Bword_61, Bword_67, Bword_83, Bword_99, Bword_125, Bword_130, Bword_131, Bword_138, Bword_143, Bword_148, Bword_155, Bword_156, oi_0, oi_1, oi_10, oi_4, oi_6, oi_8, oi_m2]; try dsimp only
          unfold Qv_word
          try dsimp only
          have n10 : n ≤ 10 := by lia
          have m10 := c10.1.mp n10
          have n8 : ¬ n ≤ 8 := by lia
          have m8 : ¬ (l.length : Int) ≤ 8 := fun z => n8 (c8.1.mpr z)
          rw [hN2]
          refine ⟨rfl, (by repeat (first | exact LkR.rf | exact hL | refine LkR.i ?_ | refine LkR.m ?_ | refine LkR.a ?_ (by decide) | refine LkR.u3 ?_ | refine LkR.u6 ?_)), hs, ?_, ?_⟩
          · intro q
            exact absurd q (by dsimp only; omega)
          · intro _
            dsimp only [Nat.beq, gI_sI, gI_sL, gI_sA, gI_sM, gL_sI, gL_sL, gL_sA, gL_sM, aI_sI, aI_sL, aI_sA, aI_sM, aL_sI, aL_sL, aL_sA, aL_sM]; simp only [upd_eq]
            rw [show wcY l = 80 from wc_long (by omega)]
            exact Or.inr (Or.inr (Or.inl ⟨rfl, rfl⟩))
      · refine hB _ _ _ _ _ (fun m21 hm21 => ?_)
        dsimp only [ugo, uwp, ust, uct, rfd, Bword, Nat.beq, lv_args, rlk, rs1, rs2, rdl, rky, rcd, rno, rsw, Value.category, List.filter, List.take, List.drop, List.reverse, List.reverseAux, List.cons_append, List.nil_append, Option.toList, Int.toNat, Int.reduceToNat, if_pos, if_neg, reduceIte, ↓reduceIte, Nat.reduceAdd, Nat.reduceEqDiff, Nat.reduceBEq, beq_self_eq_true, Bool.not_true, Bool.not_false, Bool.and_true, Bool.and_false, Bool.true_and, Bool.false_and, gI_sI, gI_sL, gI_sA, gI_sM, gL_sI, gL_sL, gL_sA, gL_sM, aI_sI, aI_sL, aI_sA, aI_sM, aL_sI, aL_sL, aL_sA, aL_sM, Bword_0, Bword_7, Bword_22, Bword_37, Bword_43, Bword_61, Bword_67, Bword_83, Bword_99, Bword_125, Bword_130, Bword_131, Bword_138, Bword_143, Bword_148, Bword_155, Bword_156, oi_0, oi_1, oi_10, oi_4, oi_6, oi_8, oi_m2]; try dsimp only
        refine hB _ _ _ _ _ (fun m22 hm22 => ?_)
        dsimp only [ugo, uwp, ust, uct, rfd, Bword, Nat.beq, lv_args, rlk, rs1, rs2, rdl, rky, rcd, rno, rsw, Value.category, List.filter, List.take, List.drop, List.reverse, List.reverseAux, List.cons_append, List.nil_append, Option.toList, Int.toNat, Int.reduceToNat, if_pos, if_neg, reduceIte, ↓reduceIte, Nat.reduceAdd, Nat.reduceEqDiff, Nat.reduceBEq, beq_self_eq_true, Bool.not_true, Bool.not_false, Bool.and_true, Bool.and_false, Bool.true_and, Bool.false_and, gI_sI, gI_sL, gI_sA, gI_sM, gL_sI, gL_sL, gL_sA, gL_sM, aI_sI, aI_sL, aI_sA, aI_sM, aL_sI, aL_sL, aL_sA, aL_sM, Bword_0, Bword_7, Bword_22, Bword_37, Bword_43, Bword_61, Bword_67, Bword_83, Bword_99, Bword_125, Bword_130, Bword_131, Bword_138, Bword_143, Bword_148, Bword_155, Bword_156, oi_0, oi_1, oi_10, oi_4, oi_6, oi_8, oi_m2]; try dsimp only
        intro p23
        refine ⟨fun h24 => ?_, fun h24 => ?_⟩
        · refine hB _ _ _ _ _ (fun m25 hm25 => ?_)
          dsimp only [ugo, uwp, ust, uct, rfd, Bword, Nat.beq, lv_args, rlk, rs1, rs2, rdl, rky, rcd, rno, rsw, Value.category, List.filter, List.take, List.drop, List.reverse, List.reverseAux, List.cons_append, List.nil_append, Option.toList, Int.toNat, Int.reduceToNat, if_pos, if_neg, reduceIte, ↓reduceIte, Nat.reduceAdd, Nat.reduceEqDiff, Nat.reduceBEq, beq_self_eq_true, Bool.not_true, Bool.not_false, Bool.and_true, Bool.and_false, Bool.true_and, Bool.false_and, gI_sI, gI_sL, gI_sA, gI_sM, gL_sI, gL_sL, gL_sA, gL_sM, aI_sI, aI_sL, aI_sA, aI_sM, aL_sI, aL_sL, aL_sA, aL_sM, Bword_0, Bword_7, Bword_22, Bword_37, Bword_43, Bword_61, Bword_67, Bword_83, Bword_99, Bword_125, Bword_130, Bword_131, Bword_138, Bword_143, Bword_148, Bword_155, Bword_156, oi_0, oi_1, oi_10, oi_4, oi_6, oi_8, oi_m2]; try dsimp only
          refine ⟨trivial, fun w26 τ26 hq26 => ?_⟩
          obtain ⟨rfl, rfl⟩ := hq26 trivial
          dsimp only [Option.toList, List.cons_append, List.nil_append, Nat.beq, gI_sI, gI_sL, gI_sA, gI_sM, gL_sI, gL_sL, gL_sA, gL_sM, aI_sI, aI_sL, aI_sA, aI_sM, aL_sI, aL_sL, aL_sA, aL_sM]
          refine hB _ _ _ _ _ (fun m27 hm27 => ?_)
          dsimp only [ugo, uwp, ust, uct, rfd, Bword, Nat.beq, lv_args, rlk, rs1, rs2, rdl, rky, rcd, rno, rsw, Value.category, List.filter, List.take, List.drop, List.reverse, List.reverseAux, List.cons_append, List.nil_append, Option.toList, Int.toNat, Int.reduceToNat, if_pos, if_neg, reduceIte, ↓reduceIte, Nat.reduceAdd, Nat.reduceEqDiff, Nat.reduceBEq, beq_self_eq_true, Bool.not_true, Bool.not_false, Bool.and_true, Bool.and_false, Bool.true_and, Bool.false_and, gI_sI, gI_sL, gI_sA, gI_sM, gL_sI, gL_sL, gL_sA, gL_sM, aI_sI, aI_sL, aI_sA, aI_sM, aL_sI, aL_sL, aL_sA, aL_sM, Bword_0, Bword_7, Bword_22, Bword_37, Bword_43, Bword_61, Bword_67, Bword_83, Bword_99, Bword_125, Bword_130, Bword_131, Bword_138, Bword_143, Bword_148, Bword_155, Bword_156, oi_0, oi_1, oi_10, oi_4, oi_6, oi_8, oi_m2]; try dsimp only
          refine ⟨fun h28 => ?_, fun h28 => ?_⟩
          · refine hB _ _ _ _ _ (fun m29 hm29 => ?_)
            dsimp only [ugo, uwp, ust, uct, rfd, Bword, Nat.beq, lv_args, rlk, rs1, rs2, rdl, rky, rcd, rno, rsw, Value.category, List.filter, List.take, List.drop, List.reverse, List.reverseAux, List.cons_append, List.nil_append, Option.toList, Int.toNat, Int.reduceToNat, if_pos, if_neg, reduceIte, ↓reduceIte, Nat.reduceAdd, Nat.reduceEqDiff, Nat.reduceBEq, beq_self_eq_true, Bool.not_true, Bool.not_false, Bool.and_true, Bool.and_false, Bool.true_and, Bool.false_and, gI_sI, gI_sL, gI_sA, gI_sM, gL_sI, gL_sL, gL_sA, gL_sM, aI_sI, aI_sL, aI_sA, aI_sM, aL_sI, aL_sL, aL_sA, aL_sM, Bword_0, Bword_7, Bword_22, Bword_37, Bword_43, Bword_61, Bword_67, Bword_83, Bword_99, Bword_125, Bword_130, Bword_131, Bword_138, Bword_143, Bword_148, Bword_155, Bword_156, oi_0, oi_1, oi_10, oi_4, oi_6, oi_8, oi_m2]; try dsimp only
            intro p30
            intro p31
            unfold Qv_word
            try dsimp only
            exfalso; lia
          · refine hB _ _ _ _ _ (fun m32 hm32 => ?_)
            dsimp only [ugo, uwp, ust, uct, rfd, Bword, Nat.beq, lv_args, rlk, rs1, rs2, rdl, rky, rcd, rno, rsw, Value.category, List.filter, List.take, List.drop, List.reverse, List.reverseAux, List.cons_append, List.nil_append, Option.toList, Int.toNat, Int.reduceToNat, if_pos, if_neg, reduceIte, ↓reduceIte, Nat.reduceAdd, Nat.reduceEqDiff, Nat.reduceBEq, beq_self_eq_true, Bool.not_true, Bool.not_false, Bool.and_true, Bool.and_false, Bool.true_and, Bool.false_and, gI_sI, gI_sL, gI_sA, gI_sM, gL_sI, gL_sL, gL_sA, gL_sM, aI_sI, aI_sL, aI_sA, aI_sM, aL_sI, aL_sL, aL_sA, aL_sM, Bword_0, Bword_7, Bword_22, Bword_37, Bword_43, Bword_61, Bword_67, Bword_83, Bword_99, Bword_125, Bword_130, Bword_131, Bword_138, Bword_143, Bword_148, Bword_155, Bword_156, oi_0, oi_1, oi_10, oi_4, oi_6, oi_8, oi_m2]; try dsimp only
            unfold Qv_word
            try dsimp only
            exfalso; lia
        · refine hB _ _ _ _ _ (fun m33 hm33 => ?_)
          dsimp only [ugo, uwp, ust, uct, rfd, Bword, Nat.beq, lv_args, rlk, rs1, rs2, rdl, rky, rcd, rno, rsw, Value.category, List.filter, List.take, List.drop, List.reverse, List.reverseAux, List.cons_append, List.nil_append, Option.toList, Int.toNat, Int.reduceToNat, if_pos, if_neg, reduceIte, ↓reduceIte, Nat.reduceAdd, Nat.reduceEqDiff, Nat.reduceBEq, beq_self_eq_true, Bool.not_true, Bool.not_false, Bool.and_true, Bool.and_false, Bool.true_and, Bool.false_and, gI_sI, gI_sL, gI_sA, gI_sM, gL_sI, gL_sL, gL_sA, gL_sM, aI_sI, aI_sL, aI_sA, aI_sM, aL_sI, aL_sL, aL_sA, aL_sM, Bword_0, Bword_7, Bword_22, Bword_37, Bword_43, Bword_61, Bword_67, Bword_83, Bword_99, Bword_125, Bword_130, Bword_131, Bword_138, Bword_143, Bword_148, Bword_155, Bword_156, oi_0, oi_1, oi_10, oi_4, oi_6, oi_8, oi_m2]; try dsimp only
          refine hB _ _ _ _ _ (fun m34 hm34 => ?_)
          dsimp only [ugo, uwp, ust, uct, rfd, Bword, Nat.beq, lv_args, rlk, rs1, rs2, rdl, rky, rcd, rno, rsw, Value.category, List.filter, List.take, List.drop, List.reverse, List.reverseAux, List.cons_append, List.nil_append, Option.toList, Int.toNat, Int.reduceToNat, if_pos, if_neg, reduceIte, ↓reduceIte, Nat.reduceAdd, Nat.reduceEqDiff, Nat.reduceBEq, beq_self_eq_true, Bool.not_true, Bool.not_false, Bool.and_true, Bool.and_false, Bool.true_and, Bool.false_and, gI_sI, gI_sL, gI_sA, gI_sM, gL_sI, gL_sL, gL_sA, gL_sM, aI_sI, aI_sL, aI_sA, aI_sM, aL_sI, aL_sL, aL_sA, aL_sM, Bword_0, Bword_7, Bword_22, Bword_37, Bword_43, Bword_61, Bword_67, Bword_83, Bword_99, Bword_125, Bword_130, Bword_131, Bword_138, Bword_143, Bword_148, Bword_155, Bword_156, oi_0, oi_1, oi_10, oi_4, oi_6, oi_8, oi_m2]; try dsimp only
          refine ⟨fun h35 => absurd h35 (by decide), fun h35 => ?_⟩
          clear h35
          refine hB _ _ _ _ _ (fun m36 hm36 => ?_)
          dsimp only [ugo, uwp, ust, uct, rfd, Bword, Nat.beq, lv_args, rlk, rs1, rs2, rdl, rky, rcd, rno, rsw, Value.category, List.filter, List.take, List.drop, List.reverse, List.reverseAux, List.cons_append, List.nil_append, Option.toList, Int.toNat, Int.reduceToNat, if_pos, if_neg, reduceIte, ↓reduceIte, Nat.reduceAdd, Nat.reduceEqDiff, Nat.reduceBEq, beq_self_eq_true, Bool.not_true, Bool.not_false, Bool.and_true, Bool.and_false, Bool.true_and, Bool.false_and, gI_sI, gI_sL, gI_sA, gI_sM, gL_sI, gL_sL, gL_sA, gL_sM, aI_sI, aI_sL, aI_sA, aI_sM, aL_sI, aL_sL, aL_sA, aL_sM, Bword_0, Bword_7, Bword_22, Bword_37, Bword_43, Bword_61, Bword_67, Bword_83, Bword_99, Bword_125, Bword_130, Bword_131, Bword_138, Bword_143, Bword_148, Bword_155, Bword_156, oi_0, oi_1, oi_10, oi_4, oi_6, oi_8, oi_m2]; try dsimp only
          unfold Qv_word
          try dsimp only
          have n10 : ¬ n ≤ 10 := by lia
          have m10 : ¬ (l.length : Int) ≤ 10 := fun z => n10 (c10.1.mpr z)
          rw [hN2]
          refine ⟨rfl, (by repeat (first | exact LkR.rf | exact hL | refine LkR.i ?_ | refine LkR.m ?_ | refine LkR.a ?_ (by decide) | refine LkR.u3 ?_ | refine LkR.u6 ?_)), hs, ?_, ?_⟩
          · intro _
            dsimp only [Nat.beq, gI_sI, gI_sL, gI_sA, gI_sM, gL_sI, gL_sL, gL_sA, gL_sM, aI_sI, aI_sL, aI_sA, aI_sM, aL_sI, aL_sL, aL_sA, aL_sM]; simp only [upd_eq]
          · intro q
            exact absurd q (by dsimp only; omega)
    have loop : ∀ (N : Nat) (Y : RS) (e : Int) (l : List Int) (n : Int32) (h : Int64) (lo : Int32), LkR t.toNatClampNeg σ Y → TxR Y x → (gI Y 13).toInt = e → i ≤ e → e ≤ x.2 → nmY x (x.2 - e).toNat e l = nmY x (x.2 - i).toNat i [] → n.toInt = l.length → (l.length : Int) = e - i → alY l → (l.length ≤ 8 → h.toInt = vlY 256 l) → K N 7 [(0, .ref 1000), (1, .int t), (2, .int n), (3, .long h), (5, .int lo)] [] Y := by
      intro N
      induction N using Nat.strongRecOn with
      | ind N loop =>
        have t83 : ∀ (M : Nat), M < N → ∀ (Y : RS) (e : Int) (l : List Int) (n : Int32) (h : Int64) (lo : Int32), LkR t.toNatClampNeg σ Y → TxR Y x → (gI Y 13).toInt = e → i ≤ e → e ≤ x.2 → nmY x (x.2 - e).toNat e l = nmY x (x.2 - i).toNat i [] → n.toInt = l.length → (l.length : Int) = e - i → alY l → isLY (btY x e) ∨ isDY (btY x e) → e < x.2 → ((btY x e :: l).length ≤ 8 → h.toInt = vlY 256 (btY x e :: l)) → K M 83 [(0, .ref 1000), (1, .int t), (2, .int n), (3, .long h), (5, .int lo)] [] Y := by
          intro M hM Y e l n h lo hL hT hs hie hex hN hn hl hA hcs hlt hH
          have hx := hT.2.1.2
          refine hB _ _ _ _ _ (fun m1 hm1 => ?_)
          dsimp only [ugo, uwp, ust, uct, rfd, Bword, Nat.beq, lv_args, rlk, rs1, rs2, rdl, rky, rcd, rno, rsw, Value.category, List.filter, List.take, List.drop, List.reverse, List.reverseAux, List.cons_append, List.nil_append, Option.toList, Int.toNat, Int.reduceToNat, if_pos, if_neg, reduceIte, ↓reduceIte, Nat.reduceAdd, Nat.reduceEqDiff, Nat.reduceBEq, beq_self_eq_true, Bool.not_true, Bool.not_false, Bool.and_true, Bool.and_false, Bool.true_and, Bool.false_and, gI_sI, gI_sL, gI_sA, gI_sM, gL_sI, gL_sL, gL_sA, gL_sM, aI_sI, aI_sL, aI_sA, aI_sM, aL_sI, aL_sL, aL_sA, aL_sM, Bword_0, Bword_7, Bword_22, Bword_37, Bword_43, Bword_61, Bword_67, Bword_83, Bword_99, Bword_125, Bword_130, Bword_131, Bword_138, Bword_143, Bword_148, Bword_155, Bword_156, oi_0, oi_1, oi_10, oi_4, oi_6, oi_8, oi_m2]; try dsimp only
          exact hW _ 7 [(0, .ref 1000), (1, .int t), (2, .int (n + 1)), (3, .long h), (5, .int lo)] _ _ _ (by simp [rdl, rky, Value.category]) (loop _ (by omega) _ (e + 1) (btY x e :: l) (n + 1) h lo (by repeat (first | exact LkR.rf | exact hL | refine LkR.i ?_ | refine LkR.m ?_ | refine LkR.a ?_ (by decide) | refine LkR.u3 ?_ | refine LkR.u6 ?_)) (TxR.kp hT rfl rfl) (by show (gI Y 13 + 1).toInt = _; exact i32_p hs (by omega) (by omega)) (by omega) (by omega) (by rw [← hN]; exact (nm_go hlt hcs).symm) (by rw [i32_p hn (by omega) (by omega), List.length_cons]; omega) (by rw [List.length_cons]; omega) (fun d hd => (List.mem_cons.mp hd).elim (fun q => by rw [q]; exact hcs) (fun q => hA d q)) hH)
        intro Y e l n h lo hL hT hs hie hex hN hn hl hA hH
        have hx := hT.2.1.2
        have c8 := i32_c hn 8
        have c10 := i32_c hn 10
        have e8 : (8 : Int32).toInt = 8 := rfl
        have e10 : (10 : Int32).toInt = 10 := rfl
        rw [e8] at c8
        rw [e10] at c10
        refine hB _ _ _ _ _ (fun m1 hm1 => ?_)
        dsimp only [ugo, uwp, ust, uct, rfd, Bword, Nat.beq, lv_args, rlk, rs1, rs2, rdl, rky, rcd, rno, rsw, Value.category, List.filter, List.take, List.drop, List.reverse, List.reverseAux, List.cons_append, List.nil_append, Option.toList, Int.toNat, Int.reduceToNat, if_pos, if_neg, reduceIte, ↓reduceIte, Nat.reduceAdd, Nat.reduceEqDiff, Nat.reduceBEq, beq_self_eq_true, Bool.not_true, Bool.not_false, Bool.and_true, Bool.and_false, Bool.true_and, Bool.false_and, gI_sI, gI_sL, gI_sA, gI_sM, gL_sI, gL_sL, gL_sA, gL_sM, aI_sI, aI_sL, aI_sA, aI_sM, aL_sI, aL_sL, aL_sA, aL_sM, Bword_0, Bword_7, Bword_22, Bword_37, Bword_43, Bword_61, Bword_67, Bword_83, Bword_99, Bword_125, Bword_130, Bword_131, Bword_138, Bword_143, Bword_148, Bword_155, Bword_156, oi_0, oi_1, oi_10, oi_4, oi_6, oi_8, oi_m2]; try dsimp only
        refine ⟨trivial, fun w2 τ2 hq2 => ?_⟩
        obtain ⟨rfl, r2, rfl, hr2⟩ := hq2 trivial
        dsimp only [Option.toList, List.cons_append, List.nil_append, Nat.beq, gI_sI, gI_sL, gI_sA, gI_sM, gL_sI, gL_sL, gL_sA, gL_sM, aI_sI, aI_sL, aI_sA, aI_sM, aL_sI, aL_sL, aL_sA, aL_sM]
        have ha2 := hr2 x hT
        rw [hs] at ha2
        refine ⟨trivial, fun w3 τ3 hq3 => ?_⟩
        obtain ⟨rfl, hb3⟩ := hq3 trivial
        rcases hb3 with ⟨rfl, hc3⟩ | ⟨rfl, hc3⟩
        · dsimp only [Option.toList, List.cons_append, List.nil_append, Nat.beq, gI_sI, gI_sL, gI_sA, gI_sM, gL_sI, gL_sL, gL_sA, gL_sM, aI_sI, aI_sL, aI_sA, aI_sM, aL_sI, aL_sL, aL_sA, aL_sM]
          refine ⟨fun h4 => ?_, fun h4 => absurd h4 (by decide)⟩
          clear h4
          refine hB _ _ _ _ _ (fun m5 hm5 => ?_)
          dsimp only [ugo, uwp, ust, uct, rfd, Bword, Nat.beq, lv_args, rlk, rs1, rs2, rdl, rky, rcd, rno, rsw, Value.category, List.filter, List.take, List.drop, List.reverse, List.reverseAux, List.cons_append, List.nil_append, Option.toList, Int.toNat, Int.reduceToNat, if_pos, if_neg, reduceIte, ↓reduceIte, Nat.reduceAdd, Nat.reduceEqDiff, Nat.reduceBEq, beq_self_eq_true, Bool.not_true, Bool.not_false, Bool.and_true, Bool.and_false, Bool.true_and, Bool.false_and, gI_sI, gI_sL, gI_sA, gI_sM, gL_sI, gL_sL, gL_sA, gL_sM, aI_sI, aI_sL, aI_sA, aI_sM, aL_sI, aL_sL, aL_sA, aL_sM, Bword_0, Bword_7, Bword_22, Bword_37, Bword_43, Bword_61, Bword_67, Bword_83, Bword_99, Bword_125, Bword_130, Bword_131, Bword_138, Bword_143, Bword_148, Bword_155, Bword_156, oi_0, oi_1, oi_10, oi_4, oi_6, oi_8, oi_m2]; try dsimp only
          have hcs : isLY (btY x e) ∨ isDY (btY x e) := by have q1 := (atR.l ha2).1; have q2 := (atR.l ha2).2.1; omega
          have hlt : e < x.2 := bt_lt (by omega)
          refine ⟨fun h6 => ?_, fun h6 => ?_⟩
          · refine hB _ _ _ _ _ (fun m7 hm7 => ?_)
            dsimp only [ugo, uwp, ust, uct, rfd, Bword, Nat.beq, lv_args, rlk, rs1, rs2, rdl, rky, rcd, rno, rsw, Value.category, List.filter, List.take, List.drop, List.reverse, List.reverseAux, List.cons_append, List.nil_append, Option.toList, Int.toNat, Int.reduceToNat, if_pos, if_neg, reduceIte, ↓reduceIte, Nat.reduceAdd, Nat.reduceEqDiff, Nat.reduceBEq, beq_self_eq_true, Bool.not_true, Bool.not_false, Bool.and_true, Bool.and_false, Bool.true_and, Bool.false_and, gI_sI, gI_sL, gI_sA, gI_sM, gL_sI, gL_sL, gL_sA, gL_sM, aI_sI, aI_sL, aI_sA, aI_sM, aL_sI, aL_sL, aL_sA, aL_sM, Bword_0, Bword_7, Bword_22, Bword_37, Bword_43, Bword_61, Bword_67, Bword_83, Bword_99, Bword_125, Bword_130, Bword_131, Bword_138, Bword_143, Bword_148, Bword_155, Bword_156, oi_0, oi_1, oi_10, oi_4, oi_6, oi_8, oi_m2]; try dsimp only
            refine ⟨fun h8 => ?_, fun h8 => ?_⟩
            · exact hW _ 83 [(0, .ref 1000), (1, .int t), (2, .int n), (3, .long h), (5, .int lo)] _ _ _ (by simp [rdl, rky, Value.category]) (t83 _ (by omega) _ e l n h lo hL hT hs hie hex hN hn hl hA hcs hlt (fun q => absurd q (by rw [List.length_cons]; have n8 : ¬ n < 8 := (by lia); have m8 : ¬ (l.length : Int) < 8 := fun z => n8 (c8.2.mpr z); omega)))
            · refine hB _ _ _ _ _ (fun m9 hm9 => ?_)
              dsimp only [ugo, uwp, ust, uct, rfd, Bword, Nat.beq, lv_args, rlk, rs1, rs2, rdl, rky, rcd, rno, rsw, Value.category, List.filter, List.take, List.drop, List.reverse, List.reverseAux, List.cons_append, List.nil_append, Option.toList, Int.toNat, Int.reduceToNat, if_pos, if_neg, reduceIte, ↓reduceIte, Nat.reduceAdd, Nat.reduceEqDiff, Nat.reduceBEq, beq_self_eq_true, Bool.not_true, Bool.not_false, Bool.and_true, Bool.and_false, Bool.true_and, Bool.false_and, gI_sI, gI_sL, gI_sA, gI_sM, gL_sI, gL_sL, gL_sA, gL_sM, aI_sI, aI_sL, aI_sA, aI_sM, aL_sI, aL_sL, aL_sA, aL_sM, Bword_0, Bword_7, Bword_22, Bword_37, Bword_43, Bword_61, Bword_67, Bword_83, Bword_99, Bword_125, Bword_130, Bword_131, Bword_138, Bword_143, Bword_148, Bword_155, Bword_156, oi_0, oi_1, oi_10, oi_4, oi_6, oi_8, oi_m2]; try dsimp only
              refine ⟨trivial, fun w10 τ10 hq10 => ?_⟩
              obtain ⟨rfl, r10, rfl, hr10⟩ := hq10 trivial
              dsimp only [Option.toList, List.cons_append, List.nil_append, Nat.beq, gI_sI, gI_sL, gI_sA, gI_sM, gL_sI, gL_sL, gL_sA, gL_sM, aI_sI, aI_sL, aI_sA, aI_sM, aL_sI, aL_sL, aL_sA, aL_sM]
              have ha10 := hr10 x hT
              rw [hs] at ha10
              exact hW _ 83 [(0, .ref 1000), (1, .int t), (2, .int n), (3, .long h), (5, .int (lo <<< (8 &&& 31) ||| r10))] _ _ _ (by simp [rdl, rky, Value.category]) (t83 _ (by omega) _ e l n h (lo <<< (8 &&& 31) ||| r10) hL hT hs hie hex hN hn hl hA hcs hlt (fun q => absurd q (by rw [List.length_cons]; have n8 : ¬ n < 8 := (by lia); have m8 : ¬ (l.length : Int) < 8 := fun z => n8 (c8.2.mpr z); omega)))
          · refine hB _ _ _ _ _ (fun m11 hm11 => ?_)
            dsimp only [ugo, uwp, ust, uct, rfd, Bword, Nat.beq, lv_args, rlk, rs1, rs2, rdl, rky, rcd, rno, rsw, Value.category, List.filter, List.take, List.drop, List.reverse, List.reverseAux, List.cons_append, List.nil_append, Option.toList, Int.toNat, Int.reduceToNat, if_pos, if_neg, reduceIte, ↓reduceIte, Nat.reduceAdd, Nat.reduceEqDiff, Nat.reduceBEq, beq_self_eq_true, Bool.not_true, Bool.not_false, Bool.and_true, Bool.and_false, Bool.true_and, Bool.false_and, gI_sI, gI_sL, gI_sA, gI_sM, gL_sI, gL_sL, gL_sA, gL_sM, aI_sI, aI_sL, aI_sA, aI_sM, aL_sI, aL_sL, aL_sA, aL_sM, Bword_0, Bword_7, Bword_22, Bword_37, Bword_43, Bword_61, Bword_67, Bword_83, Bword_99, Bword_125, Bword_130, Bword_131, Bword_138, Bword_143, Bword_148, Bword_155, Bword_156, oi_0, oi_1, oi_10, oi_4, oi_6, oi_8, oi_m2]; try dsimp only
            refine ⟨trivial, fun w12 τ12 hq12 => ?_⟩
            obtain ⟨rfl, r12, rfl, hr12⟩ := hq12 trivial
            dsimp only [Option.toList, List.cons_append, List.nil_append, Nat.beq, gI_sI, gI_sL, gI_sA, gI_sM, gL_sI, gL_sL, gL_sA, gL_sM, aI_sI, aI_sL, aI_sA, aI_sM, aL_sI, aL_sL, aL_sA, aL_sM]
            have ha12 := hr12 x hT
            rw [hs] at ha12
            exact hW _ 83 [(0, .ref 1000), (1, .int t), (2, .int n), (3, .long (h <<< (Int32.toInt64 8 &&& 63) ||| r12.toInt64)), (5, .int lo)] _ _ _ (by simp [rdl, rky, Value.category]) (t83 _ (by omega) _ e l n (h <<< (Int32.toInt64 8 &&& 63) ||| r12.toInt64) lo hL hT hs hie hex hN hn hl hA hcs hlt (fun q => by rw [List.length_cons] at q; have hz := (atR.l ha12).2.2 (by have := (atR.l ha12); omega); rw [hi_8 (hH (by omega)) (vl_pos (by decide) _ (al_b hA)) (by have := vl_lt l hA; have z := pw7 l.length (by omega); omega) (by rw [hz]; omega), hz]; rfl))
        · dsimp only [Option.toList, List.cons_append, List.nil_append, Nat.beq, gI_sI, gI_sL, gI_sA, gI_sM, gL_sI, gL_sL, gL_sA, gL_sM, aI_sI, aI_sL, aI_sA, aI_sM, aL_sI, aL_sL, aL_sA, aL_sM]
          refine ⟨fun h13 => absurd h13 (by decide), fun h13 => ?_⟩
          clear h13
          refine hB _ _ _ _ _ (fun m14 hm14 => ?_)
          dsimp only [ugo, uwp, ust, uct, rfd, Bword, Nat.beq, lv_args, rlk, rs1, rs2, rdl, rky, rcd, rno, rsw, Value.category, List.filter, List.take, List.drop, List.reverse, List.reverseAux, List.cons_append, List.nil_append, Option.toList, Int.toNat, Int.reduceToNat, if_pos, if_neg, reduceIte, ↓reduceIte, Nat.reduceAdd, Nat.reduceEqDiff, Nat.reduceBEq, beq_self_eq_true, Bool.not_true, Bool.not_false, Bool.and_true, Bool.and_false, Bool.true_and, Bool.false_and, gI_sI, gI_sL, gI_sA, gI_sM, gL_sI, gL_sL, gL_sA, gL_sM, aI_sI, aI_sL, aI_sA, aI_sM, aL_sI, aL_sL, aL_sA, aL_sM, Bword_0, Bword_7, Bword_22, Bword_37, Bword_43, Bword_61, Bword_67, Bword_83, Bword_99, Bword_125, Bword_130, Bword_131, Bword_138, Bword_143, Bword_148, Bword_155, Bword_156, oi_0, oi_1, oi_10, oi_4, oi_6, oi_8, oi_m2]; try dsimp only
          refine ⟨trivial, fun w15 τ15 hq15 => ?_⟩
          obtain ⟨rfl, r15, rfl, hr15⟩ := hq15 trivial
          dsimp only [Option.toList, List.cons_append, List.nil_append, Nat.beq, gI_sI, gI_sL, gI_sA, gI_sM, gL_sI, gL_sL, gL_sA, gL_sM, aI_sI, aI_sL, aI_sA, aI_sM, aL_sI, aL_sL, aL_sA, aL_sM]
          have ha15 := hr15 x hT
          rw [hs] at ha15
          refine ⟨trivial, fun w16 τ16 hq16 => ?_⟩
          obtain ⟨rfl, hb16⟩ := hq16 trivial
          rcases hb16 with ⟨rfl, hc16⟩ | ⟨rfl, hc16⟩
          · dsimp only [Option.toList, List.cons_append, List.nil_append, Nat.beq, gI_sI, gI_sL, gI_sA, gI_sM, gL_sI, gL_sL, gL_sA, gL_sM, aI_sI, aI_sL, aI_sA, aI_sM, aL_sI, aL_sL, aL_sA, aL_sM]
            refine ⟨fun h17 => absurd h17 (by decide), fun h17 => ?_⟩
            clear h17
            refine hB _ _ _ _ _ (fun m18 hm18 => ?_)
            dsimp only [ugo, uwp, ust, uct, rfd, Bword, Nat.beq, lv_args, rlk, rs1, rs2, rdl, rky, rcd, rno, rsw, Value.category, List.filter, List.take, List.drop, List.reverse, List.reverseAux, List.cons_append, List.nil_append, Option.toList, Int.toNat, Int.reduceToNat, if_pos, if_neg, reduceIte, ↓reduceIte, Nat.reduceAdd, Nat.reduceEqDiff, Nat.reduceBEq, beq_self_eq_true, Bool.not_true, Bool.not_false, Bool.and_true, Bool.and_false, Bool.true_and, Bool.false_and, gI_sI, gI_sL, gI_sA, gI_sM, gL_sI, gL_sL, gL_sA, gL_sM, aI_sI, aI_sL, aI_sA, aI_sM, aL_sI, aL_sL, aL_sA, aL_sM, Bword_0, Bword_7, Bword_22, Bword_37, Bword_43, Bword_61, Bword_67, Bword_83, Bword_99, Bword_125, Bword_130, Bword_131, Bword_138, Bword_143, Bword_148, Bword_155, Bword_156, oi_0, oi_1, oi_10, oi_4, oi_6, oi_8, oi_m2]; try dsimp only
            have hcs : isLY (btY x e) ∨ isDY (btY x e) := by have q1 := (atR.l ha15).1; have q2 := (atR.l ha15).2.1; omega
            have hlt : e < x.2 := bt_lt (by omega)
            refine ⟨fun h19 => ?_, fun h19 => ?_⟩
            · refine hB _ _ _ _ _ (fun m20 hm20 => ?_)
              dsimp only [ugo, uwp, ust, uct, rfd, Bword, Nat.beq, lv_args, rlk, rs1, rs2, rdl, rky, rcd, rno, rsw, Value.category, List.filter, List.take, List.drop, List.reverse, List.reverseAux, List.cons_append, List.nil_append, Option.toList, Int.toNat, Int.reduceToNat, if_pos, if_neg, reduceIte, ↓reduceIte, Nat.reduceAdd, Nat.reduceEqDiff, Nat.reduceBEq, beq_self_eq_true, Bool.not_true, Bool.not_false, Bool.and_true, Bool.and_false, Bool.true_and, Bool.false_and, gI_sI, gI_sL, gI_sA, gI_sM, gL_sI, gL_sL, gL_sA, gL_sM, aI_sI, aI_sL, aI_sA, aI_sM, aL_sI, aL_sL, aL_sA, aL_sM, Bword_0, Bword_7, Bword_22, Bword_37, Bword_43, Bword_61, Bword_67, Bword_83, Bword_99, Bword_125, Bword_130, Bword_131, Bword_138, Bword_143, Bword_148, Bword_155, Bword_156, oi_0, oi_1, oi_10, oi_4, oi_6, oi_8, oi_m2]; try dsimp only
              refine ⟨fun h21 => ?_, fun h21 => ?_⟩
              · exact hW _ 83 [(0, .ref 1000), (1, .int t), (2, .int n), (3, .long h), (5, .int lo)] _ _ _ (by simp [rdl, rky, Value.category]) (t83 _ (by omega) _ e l n h lo hL hT hs hie hex hN hn hl hA hcs hlt (fun q => absurd q (by rw [List.length_cons]; have n8 : ¬ n < 8 := (by lia); have m8 : ¬ (l.length : Int) < 8 := fun z => n8 (c8.2.mpr z); omega)))
              · refine hB _ _ _ _ _ (fun m22 hm22 => ?_)
                dsimp only [ugo, uwp, ust, uct, rfd, Bword, Nat.beq, lv_args, rlk, rs1, rs2, rdl, rky, rcd, rno, rsw, Value.category, List.filter, List.take, List.drop, List.reverse, List.reverseAux, List.cons_append, List.nil_append, Option.toList, Int.toNat, Int.reduceToNat, if_pos, if_neg, reduceIte, ↓reduceIte, Nat.reduceAdd, Nat.reduceEqDiff, Nat.reduceBEq, beq_self_eq_true, Bool.not_true, Bool.not_false, Bool.and_true, Bool.and_false, Bool.true_and, Bool.false_and, gI_sI, gI_sL, gI_sA, gI_sM, gL_sI, gL_sL, gL_sA, gL_sM, aI_sI, aI_sL, aI_sA, aI_sM, aL_sI, aL_sL, aL_sA, aL_sM, Bword_0, Bword_7, Bword_22, Bword_37, Bword_43, Bword_61, Bword_67, Bword_83, Bword_99, Bword_125, Bword_130, Bword_131, Bword_138, Bword_143, Bword_148, Bword_155, Bword_156, oi_0, oi_1, oi_10, oi_4, oi_6, oi_8, oi_m2]; try dsimp only
                refine ⟨trivial, fun w23 τ23 hq23 => ?_⟩
                obtain ⟨rfl, r23, rfl, hr23⟩ := hq23 trivial
                dsimp only [Option.toList, List.cons_append, List.nil_append, Nat.beq, gI_sI, gI_sL, gI_sA, gI_sM, gL_sI, gL_sL, gL_sA, gL_sM, aI_sI, aI_sL, aI_sA, aI_sM, aL_sI, aL_sL, aL_sA, aL_sM]
                have ha23 := hr23 x hT
                rw [hs] at ha23
                exact hW _ 83 [(0, .ref 1000), (1, .int t), (2, .int n), (3, .long h), (5, .int (lo <<< (8 &&& 31) ||| r23))] _ _ _ (by simp [rdl, rky, Value.category]) (t83 _ (by omega) _ e l n h (lo <<< (8 &&& 31) ||| r23) hL hT hs hie hex hN hn hl hA hcs hlt (fun q => absurd q (by rw [List.length_cons]; have n8 : ¬ n < 8 := (by lia); have m8 : ¬ (l.length : Int) < 8 := fun z => n8 (c8.2.mpr z); omega)))
            · refine hB _ _ _ _ _ (fun m24 hm24 => ?_)
              dsimp only [ugo, uwp, ust, uct, rfd, Bword, Nat.beq, lv_args, rlk, rs1, rs2, rdl, rky, rcd, rno, rsw, Value.category, List.filter, List.take, List.drop, List.reverse, List.reverseAux, List.cons_append, List.nil_append, Option.toList, Int.toNat, Int.reduceToNat, if_pos, if_neg, reduceIte, ↓reduceIte, Nat.reduceAdd, Nat.reduceEqDiff, Nat.reduceBEq, beq_self_eq_true, Bool.not_true, Bool.not_false, Bool.and_true, Bool.and_false, Bool.true_and, Bool.false_and, gI_sI, gI_sL, gI_sA, gI_sM, gL_sI, gL_sL, gL_sA, gL_sM, aI_sI, aI_sL, aI_sA, aI_sM, aL_sI, aL_sL, aL_sA, aL_sM, Bword_0, Bword_7, Bword_22, Bword_37, Bword_43, Bword_61, Bword_67, Bword_83, Bword_99, Bword_125, Bword_130, Bword_131, Bword_138, Bword_143, Bword_148, Bword_155, Bword_156, oi_0, oi_1, oi_10, oi_4, oi_6, oi_8, oi_m2]; try dsimp only
              refine ⟨trivial, fun w25 τ25 hq25 => ?_⟩
              obtain ⟨rfl, r25, rfl, hr25⟩ := hq25 trivial
              dsimp only [Option.toList, List.cons_append, List.nil_append, Nat.beq, gI_sI, gI_sL, gI_sA, gI_sM, gL_sI, gL_sL, gL_sA, gL_sM, aI_sI, aI_sL, aI_sA, aI_sM, aL_sI, aL_sL, aL_sA, aL_sM]
              have ha25 := hr25 x hT
              rw [hs] at ha25
              exact hW _ 83 [(0, .ref 1000), (1, .int t), (2, .int n), (3, .long (h <<< (Int32.toInt64 8 &&& 63) ||| r25.toInt64)), (5, .int lo)] _ _ _ (by simp [rdl, rky, Value.category]) (t83 _ (by omega) _ e l n (h <<< (Int32.toInt64 8 &&& 63) ||| r25.toInt64) lo hL hT hs hie hex hN hn hl hA hcs hlt (fun q => by rw [List.length_cons] at q; have hz := (atR.l ha25).2.2 (by have := (atR.l ha25); omega); rw [hi_8 (hH (by omega)) (vl_pos (by decide) _ (al_b hA)) (by have := vl_lt l hA; have z := pw7 l.length (by omega); omega) (by rw [hz]; omega), hz]; rfl))
          · dsimp only [Option.toList, List.cons_append, List.nil_append, Nat.beq, gI_sI, gI_sL, gI_sA, gI_sM, gL_sI, gL_sL, gL_sA, gL_sM, aI_sI, aI_sL, aI_sA, aI_sM, aL_sI, aL_sL, aL_sA, aL_sM]
            refine ⟨fun h26 => ?_, fun h26 => absurd h26 (by decide)⟩
            clear h26
            have hnc : ¬ (isLY (btY x e) ∨ isDY (btY x e)) := by have q1 := (atR.l ha2).1; have q2 := (atR.l ha15).2.1; omega
            exact hW _ 99 [(0, .ref 1000), (1, .int t), (2, .int n), (3, .long h), (5, .int lo)] _ _ _ (by simp [rdl, rky, Value.category]) (t99 _ _ e l n h lo hL hT hs hie hex hN hn hl hA hH hnc)
    intro n0_
    refine hB _ _ _ _ _ (fun m1 hm1 => ?_)
    dsimp only [ugo, uwp, ust, uct, rfd, Bword, Nat.beq, lv_args, rlk, rs1, rs2, rdl, rky, rcd, rno, rsw, Value.category, List.filter, List.take, List.drop, List.reverse, List.reverseAux, List.cons_append, List.nil_append, Option.toList, Int.toNat, Int.reduceToNat, if_pos, if_neg, reduceIte, ↓reduceIte, Nat.reduceAdd, Nat.reduceEqDiff, Nat.reduceBEq, beq_self_eq_true, Bool.not_true, Bool.not_false, Bool.and_true, Bool.and_false, Bool.true_and, Bool.false_and, gI_sI, gI_sL, gI_sA, gI_sM, gL_sI, gL_sL, gL_sA, gL_sM, aI_sI, aI_sL, aI_sA, aI_sM, aL_sI, aL_sL, aL_sA, aL_sM, Bword_0, Bword_7, Bword_22, Bword_37, Bword_43, Bword_61, Bword_67, Bword_83, Bword_99, Bword_125, Bword_130, Bword_131, Bword_138, Bword_143, Bword_148, Bword_155, Bword_156, oi_0, oi_1, oi_10, oi_4, oi_6, oi_8, oi_m2]; try dsimp only
    exact hW _ 7 [(0, .ref 1000), (1, .int t), (2, .int 0), (3, .long 0), (5, .int 0)] _ _ _ (by simp [rdl, rky, Value.category]) (loop _ _ i [] 0 0 0 LkR.rf hT0 hs0 (Int.le_refl _) (by omega) rfl rfl (by show (0 : Int) = i - i; omega) (fun d hd => absurd hd List.not_mem_nil) (fun _ => rfl))
  next => exact hP.elim
theorem w_word : UMet 7 (fun _ _ => True) Qw_word := fun A1 σ _ w τ h x i hP => v_word x i A1 σ hP w τ h
