theorem hi_6 {h : Int64} {r : Int32} {a : Int} (hh : h.toInt = a) (h0 : 0 ≤ a) (h1 : a < 2 ^ 57) (r0 : 0 ≤ r.toInt ∧ r.toInt < 64) : (h <<< ((Int32.ofInt 6).toInt64 &&& 63) ||| r.toInt64).toInt = 64 * a + r.toInt := by
  have e1 : ((Int32.ofInt 6).toInt64 &&& 63) = (6 : Int64) := by decide
  rw [e1]
  have hb : h.toBitVec.toNat = a.toNat := by
    have : h.toInt = h.toBitVec.toInt := rfl
    have hx : h.toBitVec.toInt = a := by rw [← this]; exact hh
    rw [BitVec.toInt_eq_toNat_cond] at hx
    split at hx <;> omega
  have rb : r.toInt64.toBitVec.toNat = r.toInt.toNat := by
    have q : r.toInt64.toInt = r.toInt := Int32.toInt_toInt64 r
    have q : r.toInt64.toBitVec.toInt = r.toInt := q
    rw [BitVec.toInt_eq_toNat_cond] at q
    split at q <;> omega
  have key : (h <<< (6 : Int64) ||| r.toInt64).toBitVec.toNat = 64 * a.toNat + r.toInt.toNat := by
    have e2 : (h <<< (6 : Int64) ||| r.toInt64).toBitVec = (h.toBitVec <<< 6) ||| r.toInt64.toBitVec := by
      rw [Int64.toBitVec_or, Int64.toBitVec_shiftLeft]
      rfl
    rw [e2, BitVec.toNat_or, BitVec.toNat_shiftLeft, hb, rb]
    have e3 : a.toNat <<< 6 % 2 ^ 64 = a.toNat <<< 6 := Nat.mod_eq_of_lt (by rw [Nat.shiftLeft_eq]; omega)
    rw [e3, ← Nat.shiftLeft_add_eq_or_of_lt (by omega : r.toInt.toNat < 2 ^ 6), Nat.shiftLeft_eq]
    omega
  show (h <<< (6 : Int64) ||| r.toInt64).toBitVec.toInt = _
  rw [BitVec.toInt_eq_toNat_cond, key, if_pos (by omega)]
  omega
abbrev alK (l : List Int) : Prop := ∀ d ∈ l, isLY d ∨ isDY d
theorem dgK_b {d : Int} (h : isLY d ∨ isDY d) : 1 ≤ dgK d ∧ dgK d < 64 := by
  unfold dgK
  repeat' split
  all_goals omega
theorem dgK_i {c d : Int} (hc : isLY c ∨ isDY c) (hd : isLY d ∨ isDY d) (h : dgK c = dgK d) : c = d := by
  unfold dgK at h
  repeat' (split at h)
  all_goals omega
def kyY (l : List Int) : Int := vlY 64 (l.map dgK)
theorem ky_lt : ∀ l : List Int, alK l → 0 ≤ kyY l ∧ kyY l + 1 ≤ 64 ^ l.length := by
  intro l
  induction l with
  | nil => intro _; decide
  | cons d l ih =>
    intro ha
    have a := ih (fun z hz => ha z (List.mem_cons_of_mem _ hz))
    have b := dgK_b (ha d List.mem_cons_self)
    rw [List.length_cons, Int.pow_succ]
    show 0 ≤ 64 * kyY l + dgK d ∧ 64 * kyY l + dgK d + 1 ≤ _
    omega
theorem map_dg : ∀ l m : List Int, alK l → alK m → l.map dgK = m.map dgK → l = m := by
  intro l
  induction l with
  | nil =>
    intro m _ _ h
    cases m with
    | nil => rfl
    | cons d m => cases h
  | cons c l ih =>
    intro m hl hm h
    cases m with
    | nil => cases h
    | cons d m =>
      rw [List.map_cons, List.map_cons] at h
      injection h with h1 h2
      rw [dgK_i (hl c List.mem_cons_self) (hm d List.mem_cons_self) h1, ih m (fun z hz => hl z (List.mem_cons_of_mem _ hz)) (fun z hz => hm z (List.mem_cons_of_mem _ hz)) h2]
theorem ky_i {l m : List Int} (hl : alK l) (hm : alK m) (h : kyY l = kyY m) : l = m := by
  refine map_dg l m hl hm (vl_inj (by decide) _ _ (fun d hd => ?_) (fun d hd => ?_) h)
  · obtain ⟨c, hc, rfl⟩ := List.mem_map.mp hd
    exact dgK_b (hl c hc)
  · obtain ⟨c, hc, rfl⟩ := List.mem_map.mp hd
    exact dgK_b (hm c hc)
/-- the words, last letter first, in the class's order -/
def wkY : List (List Int) := [[110, 97, 101, 108, 111, 111, 98], [101, 116, 121, 98], [114, 97, 104, 99], [116, 110, 105], [103, 110, 111, 108], [100, 105, 111, 118], [102, 105], [101, 115, 108, 101], [101, 108, 105, 104, 119], [111, 100], [114, 111, 102], [104, 99, 116, 105, 119, 115], [101, 115, 97, 99], [116, 108, 117, 97, 102, 101, 100], [107, 97, 101, 114, 98], [101, 117, 110, 105, 116, 110, 111, 99], [110, 114, 117, 116, 101, 114], [119, 111, 114, 104, 116], [121, 114, 116], [104, 99, 116, 97, 99], [121, 108, 108, 97, 110, 105, 102], [108, 97, 110, 105, 102], [101, 117, 114, 116], [101, 115, 108, 97, 102]]
theorem wk_al : ∀ w ∈ wkY, alK w := by
  decide
theorem wk_c {l : List Int} {d : Int} (h1 : ∀ j, j < 24 → l = wkY.getD j [] → d = 50 + j) (h2 : (∀ j, j < 24 → ¬ l = wkY.getD j []) → d = 80) : d = wcY l := by
  unfold wcY
  rcases Decidable.em (l = [110, 97, 101, 108, 111, 111, 98]) with h | k0
  · rw [if_pos h]; exact h1 0 (by decide) h
  rw [if_neg k0]
  rcases Decidable.em (l = [101, 116, 121, 98]) with h | k1
  · rw [if_pos h]; exact h1 1 (by decide) h
  rw [if_neg k1]
  rcases Decidable.em (l = [114, 97, 104, 99]) with h | k2
  · rw [if_pos h]; exact h1 2 (by decide) h
  rw [if_neg k2]
  rcases Decidable.em (l = [116, 110, 105]) with h | k3
  · rw [if_pos h]; exact h1 3 (by decide) h
  rw [if_neg k3]
  rcases Decidable.em (l = [103, 110, 111, 108]) with h | k4
  · rw [if_pos h]; exact h1 4 (by decide) h
  rw [if_neg k4]
  rcases Decidable.em (l = [100, 105, 111, 118]) with h | k5
  · rw [if_pos h]; exact h1 5 (by decide) h
  rw [if_neg k5]
  rcases Decidable.em (l = [102, 105]) with h | k6
  · rw [if_pos h]; exact h1 6 (by decide) h
  rw [if_neg k6]
  rcases Decidable.em (l = [101, 115, 108, 101]) with h | k7
  · rw [if_pos h]; exact h1 7 (by decide) h
  rw [if_neg k7]
  rcases Decidable.em (l = [101, 108, 105, 104, 119]) with h | k8
  · rw [if_pos h]; exact h1 8 (by decide) h
  rw [if_neg k8]
  rcases Decidable.em (l = [111, 100]) with h | k9
  · rw [if_pos h]; exact h1 9 (by decide) h
  rw [if_neg k9]
  rcases Decidable.em (l = [114, 111, 102]) with h | k10
  · rw [if_pos h]; exact h1 10 (by decide) h
  rw [if_neg k10]
  rcases Decidable.em (l = [104, 99, 116, 105, 119, 115]) with h | k11
  · rw [if_pos h]; exact h1 11 (by decide) h
  rw [if_neg k11]
  rcases Decidable.em (l = [101, 115, 97, 99]) with h | k12
  · rw [if_pos h]; exact h1 12 (by decide) h
  rw [if_neg k12]
  rcases Decidable.em (l = [116, 108, 117, 97, 102, 101, 100]) with h | k13
  · rw [if_pos h]; exact h1 13 (by decide) h
  rw [if_neg k13]
  rcases Decidable.em (l = [107, 97, 101, 114, 98]) with h | k14
  · rw [if_pos h]; exact h1 14 (by decide) h
  rw [if_neg k14]
  rcases Decidable.em (l = [101, 117, 110, 105, 116, 110, 111, 99]) with h | k15
  · rw [if_pos h]; exact h1 15 (by decide) h
  rw [if_neg k15]
  rcases Decidable.em (l = [110, 114, 117, 116, 101, 114]) with h | k16
  · rw [if_pos h]; exact h1 16 (by decide) h
  rw [if_neg k16]
  rcases Decidable.em (l = [119, 111, 114, 104, 116]) with h | k17
  · rw [if_pos h]; exact h1 17 (by decide) h
  rw [if_neg k17]
  rcases Decidable.em (l = [121, 114, 116]) with h | k18
  · rw [if_pos h]; exact h1 18 (by decide) h
  rw [if_neg k18]
  rcases Decidable.em (l = [104, 99, 116, 97, 99]) with h | k19
  · rw [if_pos h]; exact h1 19 (by decide) h
  rw [if_neg k19]
  rcases Decidable.em (l = [121, 108, 108, 97, 110, 105, 102]) with h | k20
  · rw [if_pos h]; exact h1 20 (by decide) h
  rw [if_neg k20]
  rcases Decidable.em (l = [108, 97, 110, 105, 102]) with h | k21
  · rw [if_pos h]; exact h1 21 (by decide) h
  rw [if_neg k21]
  rcases Decidable.em (l = [101, 117, 114, 116]) with h | k22
  · rw [if_pos h]; exact h1 22 (by decide) h
  rw [if_neg k22]
  rcases Decidable.em (l = [101, 115, 108, 97, 102]) with h | k23
  · rw [if_pos h]; exact h1 23 (by decide) h
  rw [if_neg k23]
  exact h2 (fun j hj => by
    have : j = 0 ∨ j = 1 ∨ j = 2 ∨ j = 3 ∨ j = 4 ∨ j = 5 ∨ j = 6 ∨ j = 7 ∨ j = 8 ∨ j = 9 ∨ j = 10 ∨ j = 11 ∨ j = 12 ∨ j = 13 ∨ j = 14 ∨ j = 15 ∨ j = 16 ∨ j = 17 ∨ j = 18 ∨ j = 19 ∨ j = 20 ∨ j = 21 ∨ j = 22 ∨ j = 23 := by omega
    rcases this with rfl | rfl | rfl | rfl | rfl | rfl | rfl | rfl | rfl | rfl | rfl | rfl | rfl | rfl | rfl | rfl | rfl | rfl | rfl | rfl | rfl | rfl | rfl | rfl
    · exact k0
    · exact k1
    · exact k2
    · exact k3
    · exact k4
    · exact k5
    · exact k6
    · exact k7
    · exact k8
    · exact k9
    · exact k10
    · exact k11
    · exact k12
    · exact k13
    · exact k14
    · exact k15
    · exact k16
    · exact k17
    · exact k18
    · exact k19
    · exact k20
    · exact k21
    · exact k22
    · exact k23)
