/-! what tokens are worth: reference -/
theorem mL_eq {σ : RS} {k : Nat} {f : Nat → Int64} : aL (sM σ k f) k = f := by
  rw [aL_sM, nb_eq]
theorem mL_ne {σ : RS} {k r : Nat} {f : Nat → Int64} (h : r ≠ k) : aL (sM σ k f) r = aL σ r := by
  rw [aL_sM, nb_ne h]
theorem uL_eq {f : Nat → Int64} {k : Nat} {x : Int64} : vp_updL f k x k = x := if_pos rfl
theorem uL_ne {f : Nat → Int64} {k i : Nat} {x : Int64} (h : i ≠ k) : vp_updL f k x i = f i := if_neg h
def TvR (t : Nat) (σ τ : RS) : Prop := (∀ k, k ≠ 7 → k ≠ 9 → aL τ k = aL σ k) ∧ ∀ j, j ≠ t → aL τ 7 j = aL σ 7 j ∧ aL τ 9 j = aL σ 9 j ∧ aI τ 8 j = aI σ 8 j ∧ aI τ 10 j = aI σ 10 j ∧ aI τ 11 j = aI σ 11 j
theorem TvR.rf {t : Nat} {σ : RS} : TvR t σ σ := ⟨fun _ _ _ => rfl, fun _ _ => ⟨rfl, rfl, rfl, rfl, rfl⟩⟩
theorem TvR.i {t k : Nat} {σ τ : RS} {v : Int32} (h : TvR t σ τ) : TvR t σ (sI τ k v) := h
theorem uA_j {τ : RS} {k m t j : Nat} {v : Int32} (hj : j ≠ t) : aI (sA τ k (upd (aI τ k) t v)) m j = aI τ m j := by
  by_cases h : m = k
  · subst h
    rw [aI_eq, upd_ne hj]
  · rw [aI_ne h]
theorem uM_j {τ : RS} {k m t j : Nat} {v : Int64} (hj : j ≠ t) : aL (sM τ k (vp_updL (aL τ k) t v)) m j = aL τ m j := by
  by_cases h : m = k
  · subst h
    rw [mL_eq, uL_ne hj]
  · rw [mL_ne h]
theorem TvR.u {t k : Nat} {σ τ : RS} {v : Int32} (h : TvR t σ τ) : TvR t σ (sA τ k (upd (aI τ k) t v)) := ⟨h.1, fun j hj => by
  have q := h.2 j hj
  rw [uA_j hj, uA_j hj, uA_j hj]
  exact q⟩
theorem TvR.m {t k : Nat} {σ τ : RS} {v : Int64} (h : TvR t σ τ) (hk : k = 7 ∨ k = 9) : TvR t σ (sM τ k (vp_updL (aL τ k) t v)) := ⟨fun j h1 h2 => by rw [mL_ne (by omega)]; exact h.1 j h1 h2, fun j hj => by
  have q := h.2 j hj
  rw [uM_j hj, uM_j hj]
  exact q⟩
/-- a NAME's first eight bytes, and the two behind them (newest first) -/
def hwY : List Int → Int64
  | [] => 0
  | d :: l => if l.length < 8 then hwY l <<< (Int32.toInt64 8 &&& 63) ||| (Int32.ofInt d).toInt64 else hwY l
def lwY : List Int → Int32
  | [] => 0
  | d :: l => if l.length < 8 then lwY l else if l.length < 10 then lwY l <<< (8 &&& 31) ||| Int32.ofInt d else lwY l
theorem hw_a {d : Int} {l : List Int} {r : Int32} (h : l.length < 8) (e : r.toInt = d) : hwY l <<< (Int32.toInt64 8 &&& 63) ||| r.toInt64 = hwY (d :: l) := by
  subst e
  rw [hwY, if_pos h, Int32.ofInt_toInt]
theorem hw_b {d : Int} {l : List Int} (h : ¬ l.length < 8) : hwY l = hwY (d :: l) := by rw [hwY, if_neg h]
theorem lw_a {d : Int} {l : List Int} (h : l.length < 8) : lwY l = lwY (d :: l) := by rw [lwY, if_pos h]
theorem lw_b {d : Int} {l : List Int} {r : Int32} (h : ¬ l.length < 8) (g : l.length < 10) (e : r.toInt = d) : lwY l <<< (8 &&& 31) ||| r = lwY (d :: l) := by
  subst e
  rw [lwY, if_neg h, if_pos g, Int32.ofInt_toInt]
theorem lw_c {d : Int} {l : List Int} (h : ¬ l.length < 10) : lwY l = lwY (d :: l) := by rw [lwY, if_neg (by omega), if_neg h]
theorem i32_of {d : Int} (h0 : 0 ≤ d) (h1 : d < 256) : (Int32.ofInt d).toInt = d := Int32.toInt_ofInt_of_le (by omega) (by omega)
theorem hw_v : ∀ l : List Int, alY l → l.length ≤ 8 → (hwY l).toInt = vlY 256 l := by
  intro l
  induction l with
  | nil => intro _ _; rfl
  | cons d l ih =>
    intro ha hl
    rw [List.length_cons] at hl
    have hd := ha d List.mem_cons_self
    have a := ih (fun z hz => ha z (List.mem_cons_of_mem _ hz)) (by omega)
    have ha' : alY l := fun z hz => ha z (List.mem_cons_of_mem _ hz)
    have e := i32_of (d := d) (by omega) (by omega)
    rw [hwY, if_pos (by omega), hi_8 a (vl_pos (by decide) _ (al_b ha')) (by have := vl_lt l ha'; have z := pw7 l.length (by omega); omega) (by rw [e]; omega), e]
    rfl
theorem hw_c : ∀ (m l : List Int), l.length = 8 → hwY (m ++ l) = hwY l := by
  intro m
  induction m with
  | nil => intro l _; rfl
  | cons d m ih =>
    intro l hl
    rw [List.cons_append, hwY, if_neg (by rw [List.length_append]; omega)]
    exact ih l hl
theorem lw_0 : ∀ l : List Int, l.length ≤ 8 → lwY l = 0 := by
  intro l
  induction l with
  | nil => intro _; rfl
  | cons d l ih =>
    intro hl
    rw [List.length_cons] at hl
    rw [lwY, if_pos (by omega)]
    exact ih (by omega)
theorem lo_8 {h r : Int32} {a : Int} (hh : h.toInt = a) (h0 : 0 ≤ a) (h1 : a < 2 ^ 20) (r0 : 0 ≤ r.toInt ∧ r.toInt < 256) : (h <<< (8 &&& 31) ||| r).toInt = 256 * a + r.toInt := by
  have e1 : ((8 : Int32) &&& 31) = (8 : Int32) := by decide
  rw [e1]
  have hb : h.toBitVec.toNat = a.toNat := by
    have hx : h.toBitVec.toInt = a := hh
    rw [BitVec.toInt_eq_toNat_cond] at hx
    split at hx <;> omega
  have rb : r.toBitVec.toNat = r.toInt.toNat := by
    have q : r.toBitVec.toInt = r.toInt := rfl
    rw [BitVec.toInt_eq_toNat_cond] at q
    split at q <;> omega
  have key : (h <<< (8 : Int32) ||| r).toBitVec.toNat = 256 * a.toNat + r.toInt.toNat := by
    have e2 : (h <<< (8 : Int32) ||| r).toBitVec = (h.toBitVec <<< 8) ||| r.toBitVec := by
      rw [Int32.toBitVec_or, Int32.toBitVec_shiftLeft]
      rfl
    rw [e2, BitVec.toNat_or, BitVec.toNat_shiftLeft, hb, rb]
    have e3 : a.toNat <<< 8 % 2 ^ 32 = a.toNat <<< 8 := Nat.mod_eq_of_lt (by rw [Nat.shiftLeft_eq]; omega)
    rw [e3, ← Nat.shiftLeft_add_eq_or_of_lt (by omega : r.toInt.toNat < 2 ^ 8), Nat.shiftLeft_eq]
    omega
  show (h <<< (8 : Int32) ||| r).toBitVec.toInt = _
  rw [BitVec.toInt_eq_toNat_cond, key, if_pos (by omega)]
  omega
theorem lw_v : ∀ m l : List Int, alY m → l.length = 8 → m.length ≤ 2 → (lwY (m ++ l)).toInt = vlY 256 m := by
  intro m
  induction m with
  | nil =>
    intro l _ hl _
    show (lwY l).toInt = 0
    rw [lw_0 l (by omega)]
    rfl
  | cons d m ih =>
    intro l ha hl hm
    rw [List.length_cons] at hm
    have hd := ha d List.mem_cons_self
    have ha' : alY m := fun z hz => ha z (List.mem_cons_of_mem _ hz)
    have a := ih l ha' hl (by omega)
    have e := i32_of (d := d) (by omega) (by omega)
    rw [List.cons_append, lwY, if_neg (by rw [List.length_append]; omega), if_pos (by rw [List.length_append]; omega), lo_8 a (vl_pos (by decide) _ (al_b ha')) (by have := vl_lt m ha'; have z := pw7 m.length (by omega); have z2 : (256 : Int) ^ m.length ≤ 256 := (by have q : m.length = 0 ∨ m.length = 1 := (by omega); rcases q with q | q <;> rw [q] <;> decide); omega) (by rw [e]; omega), e]
    rfl
/-- both tell the NAME -/
theorem hl_inj {l m : List Int} (hl : alY l) (hm : alY m) (h1 : l.length ≤ 10) (h2 : l.length = m.length) (e1 : hwY l = hwY m) (e2 : lwY l = lwY m) : l = m := by
  by_cases h : l.length ≤ 8
  · refine vl_inj (B := 256) (by decide) l m (al_b hl) (al_b hm) ?_
    rw [← hw_v l hl h, ← hw_v m hm (by omega), e1]
  · have el := (List.take_append_drop (l.length - 8) l).symm
    have em := (List.take_append_drop (l.length - 8) m).symm
    have l8 : (l.drop (l.length - 8)).length = 8 := by rw [List.length_drop]; omega
    have m8 : (m.drop (l.length - 8)).length = 8 := by rw [List.length_drop]; omega
    have l2 : (l.take (l.length - 8)).length ≤ 2 := by rw [List.length_take]; omega
    have m2 : (m.take (l.length - 8)).length ≤ 2 := by rw [List.length_take]; omega
    have lt : alY (l.take (l.length - 8)) := fun d hd => hl d (List.mem_of_mem_take hd)
    have mt : alY (m.take (l.length - 8)) := fun d hd => hm d (List.mem_of_mem_take hd)
    have ld : alY (l.drop (l.length - 8)) := fun d hd => hl d (List.mem_of_mem_drop hd)
    have md : alY (m.drop (l.length - 8)) := fun d hd => hm d (List.mem_of_mem_drop hd)
    have q1 : l.drop (l.length - 8) = m.drop (l.length - 8) := by
      refine vl_inj (B := 256) (by decide) _ _ (al_b ld) (al_b md) ?_
      rw [← hw_v _ ld (by omega), ← hw_v _ md (by omega), ← hw_c (l.take (l.length - 8)) _ l8, ← hw_c (m.take (l.length - 8)) _ m8, ← el, ← em, e1]
    have q2 : l.take (l.length - 8) = m.take (l.length - 8) := by
      refine vl_inj (B := 256) (by decide) _ _ (al_b lt) (al_b mt) ?_
      rw [← lw_v _ _ lt l8 l2, ← lw_v _ _ mt m8 m2, ← el, ← em, e2]
    rw [el, q1, q2]
    exact em.symm
/-- a NUMBER's value -/
def nvY (x : TxY) : Nat → Int → Int → Int
  | 0, _, v => v
  | f + 1, e, v => if isDY (btY x e) then nvY x f (e + 1) (10 * v + (btY x e - 48)) else v
theorem nv_go {x : TxY} {e v : Int} (h : e < x.2) (hc : isDY (btY x e)) : nvY x (x.2 - e).toNat e v = nvY x (x.2 - (e + 1)).toNat (e + 1) (10 * v + (btY x e - 48)) := by
  rw [fu_s h, nvY, if_pos hc]
theorem nv_no {x : TxY} {e v : Int} (hc : ¬ isDY (btY x e)) : nvY x (x.2 - e).toNat e v = v := by
  by_cases h : e < x.2
  · rw [fu_s h, nvY, if_neg hc]
  · rw [fu_z h]
    rfl
/-- over: the value passes the greatest long by more than one -/
def OVR (k v : Int) (lo : Int32) : Prop := 0 ≤ v ∧ (k ≤ 19 → v < ((10 ^ k.toNat : Nat) : Int)) ∧ (lo = 0 ∨ lo = 1) ∧ (k ≤ 19 → (lo = 1 ↔ 9223372036854775808 < v))
theorem i64_v {v : Int} (h0 : 0 ≤ v) (h1 : v < 10000000000000000000) : ((Int64.ofInt v).toInt = v ∧ v < 9223372036854775808) ∨ ((Int64.ofInt v).toInt = v - 18446744073709551616 ∧ 9223372036854775808 ≤ v) := by
  rw [Int64.toInt_ofInt, show Int64.size = 18446744073709551616 from rfl]
  by_cases h : v < 9223372036854775808
  · exact Or.inl ⟨Int.bmod_eq_of_le (by omega) (by omega), h⟩
  · refine Or.inr ⟨?_, by omega⟩
    rw [Int.bmod_def]
    have e : v % ((18446744073709551616 : Nat) : Int) = v := Int.emod_eq_of_lt h0 (by omega)
    rw [e, if_neg (by omega)]
    omega
theorem p10 {k : Int} {n : Nat} (h : k.toNat ≤ n) : ((10 ^ k.toNat : Nat) : Int) ≤ ((10 ^ n : Nat) : Int) := Int.ofNat_le.mpr (Nat.pow_le_pow_right (by decide) h)
theorem OVR.h {k v : Int} {lo : Int32} (h : OVR k v lo) (hk : k ≤ 18) : (Int64.ofInt v).toInt = v ∧ v < 1000000000000000000 ∧ ¬ lo = 1 := by
  have a := h.2.1 (by omega)
  have b := p10 (k := k) (n := 18) (by omega)
  have b : ((10 ^ k.toNat : Nat) : Int) ≤ 1000000000000000000 := b
  refine ⟨(i64_v h.1 (by omega)).elim (fun q => q.1) (fun q => by omega), by omega, fun q => ?_⟩
  have := (h.2.2.2 (by omega)).mp q
  omega
theorem OVR.s {k v d : Int} {lo lo' : Int32} (h : OVR k v lo) (h0 : 0 ≤ k) (d0 : 0 ≤ d ∧ d ≤ 9) (hl : (lo' = 1 ∧ (922337203685477580 < (Int64.ofInt v).toInt ∨ ((Int64.ofInt v).toInt = 922337203685477580 ∧ 8 < d))) ∨ (lo' = lo ∧ ¬ (922337203685477580 < (Int64.ofInt v).toInt ∨ ((Int64.ofInt v).toInt = 922337203685477580 ∧ 8 < d)))) : OVR (k + 1) (10 * v + d) lo' := by
  have hv := h.1
  refine ⟨by omega, fun hk => ?_, ?_, fun hk => ?_⟩
  · have a := h.2.1 (by omega)
    have e : (k + 1).toNat = k.toNat + 1 := by omega
    rw [e, Nat.pow_succ]
    omega
  · rcases hl with q | q
    · exact Or.inr q.1
    · rw [q.1]; exact h.2.2.1
  · have a := h.h (by omega)
    rw [a.1] at hl
    rcases hl with q | q
    · rw [q.1]
      exact ⟨fun _ => by omega, fun _ => rfl⟩
    · rw [q.1]
      exact ⟨fun z => absurd z a.2.2, fun z => by omega⟩
theorem lg_t (x y : Int64) : (lg_cmp x y < 0 ∧ ¬ lg_cmp x y = 0 ∧ ¬ 0 < lg_cmp x y ∧ x.toInt < y.toInt) ∨ (lg_cmp x y = 0 ∧ x.toInt = y.toInt) ∨ (0 < lg_cmp x y ∧ ¬ lg_cmp x y = 0 ∧ ¬ lg_cmp x y < 0 ∧ y.toInt < x.toInt) := by
  by_cases h : x < y
  · have e : lg_cmp x y = -1 := by have a := Int64.lt_iff_toInt_lt.mp h; unfold lg_cmp; rw [if_neg (fun q => by have b := Int64.lt_iff_toInt_lt.mp q; omega), if_neg (fun q => by rw [q] at a; omega)]
    rw [e]
    exact Or.inl ⟨by decide, by decide, by decide, Int64.lt_iff_toInt_lt.mp h⟩
  · by_cases g : x = y
    · exact Or.inr (Or.inl ⟨wox.mpr g, by rw [g]⟩)
    · have e : lg_cmp x y = 1 := by unfold lg_cmp; rw [if_pos (show y < x from Int64.lt_iff_toInt_lt.mpr (by have a : ¬ x.toInt < y.toInt := fun z => h (Int64.lt_iff_toInt_lt.mpr z); have b : ¬ x.toInt = y.toInt := fun z => g (Int64.toInt_inj.mp z); omega))]
      rw [e]
      refine Or.inr (Or.inr ⟨by decide, by decide, by decide, ?_⟩)
      have a : ¬ x.toInt < y.toInt := fun z => h (Int64.lt_iff_toInt_lt.mpr z)
      have b : ¬ x.toInt = y.toInt := fun z => g (Int64.toInt_inj.mp z)
      omega
theorem i64_10 {v : Int} {d : Int32} : Int64.ofInt 10 * Int64.ofInt v + d.toInt64 = Int64.ofInt (10 * v + d.toInt) := by
  have e : d.toInt64 = Int64.ofInt d.toInt := by
    rw [← Int64.toInt_inj, Int32.toInt_toInt64, Int64.toInt_ofInt, show Int64.size = 18446744073709551616 from rfl]
    have a := d.toInt_lt
    have b := d.le_toInt
    exact (Int.bmod_eq_of_le (by omega) (by omega)).symm
  rw [e, Int64.ofInt_add, Int64.ofInt_mul]
def grY (c v : Int) : Int32 := if c = 76 then (if 9223372036854775808 < v then 2 else if v = 9223372036854775808 then 1 else 0) else (if 2147483648 < v then 2 else if v = 2147483648 then 1 else 0)
theorem gr_of {c k v : Int} {lo g : Int32} (hO : OVR k v lo) (hk : k ≤ 19) (h0 : 0 ≤ k) (h : (c = 76 ∧ ((g = 2 ∧ lo = 1) ∨ (g = 1 ∧ ¬ lo = 1 ∧ (Int64.ofInt v).toInt < 0) ∨ (g = 0 ∧ ¬ lo = 1 ∧ ¬ (Int64.ofInt v).toInt < 0))) ∨ (¬ c = 76 ∧ ((g = 2 ∧ (lo = 1 ∨ (Int64.ofInt v).toInt < 0 ∨ 2147483648 < (Int64.ofInt v).toInt)) ∨ (g = 1 ∧ ¬ lo = 1 ∧ (Int64.ofInt v).toInt = 2147483648) ∨ (g = 0 ∧ ¬ lo = 1 ∧ ¬ (Int64.ofInt v).toInt < 0 ∧ (Int64.ofInt v).toInt < 2147483648)))) : g = grY c v := by
  have hl := hO.2.2.2 hk
  have a := hO.2.1 hk
  have b := p10 (k := k) (n := 19) (by omega)
  have b : ((10 ^ k.toNat : Nat) : Int) ≤ 10000000000000000000 := b
  have hv := hO.1
  have z := i64_v hO.1 (by omega)
  rw [hl] at h
  unfold grY
  rcases h with ⟨hc, h⟩ | ⟨hc, h⟩
  · rw [if_pos hc]
    rcases h with ⟨rfl, h⟩ | ⟨rfl, h⟩ | ⟨rfl, h⟩
    · rw [if_pos h]
    · rw [if_neg h.1, if_pos (by omega)]
    · rw [if_neg h.1, if_neg (by omega)]
  · rw [if_neg hc]
    rcases h with ⟨rfl, h⟩ | ⟨rfl, h⟩ | ⟨rfl, h⟩
    · rw [if_pos (by omega)]
    · rw [if_neg (by omega), if_pos (by omega)]
    · rw [if_neg (by omega), if_neg (by omega)]
theorem i64_b {b : Int32} {v : Int} (h : b.toInt = v) : b.toInt64 = Int64.ofInt v := by
  subst h
  rw [← Int64.toInt_inj, Int32.toInt_toInt64, Int64.toInt_ofInt, show Int64.size = 18446744073709551616 from rfl]
  have a := b.toInt_lt
  have c := b.le_toInt
  exact (Int.bmod_eq_of_le (by omega) (by omega)).symm
def Pv_wordT (x : TxY) (i : Int) : UP1 := fun A1 σ => match A1 with
  | [.int t] => TxR σ x ∧ (gI σ 13).toInt = i ∧ 0 ≤ i ∧ i < x.2
  | _ => False
def Qv_wordT (x : TxY) (i : Int) : UQ1 := fun A1 σ w τ => match A1 with
  | [.int t] => TvR t.toNatClampNeg σ τ ∧ aL τ 7 t.toNatClampNeg = hwY (nmY x (x.2 - i).toNat i []).2 ∧ aI τ 8 t.toNatClampNeg = lwY (nmY x (x.2 - i).toNat i []).2
  | _ => False
def Qw_wordT : UQ1 := fun A1 σ w τ => ∀ (x : TxY) (i : Int), Pv_wordT x i A1 σ → Qv_wordT x i A1 σ w τ
set_option maxRecDepth 100000 in
set_option maxHeartbeats 4000000 in
theorem v_wordT (x : TxY) (i : Int) : UMet 7 (Pv_wordT x i) (Qv_wordT x i) := by
  refine UMet.by Bword [(3, (fun _ _ => True), Qw_at), (5, (fun _ _ => True), Qw_isDigit), (4, (fun _ _ => True), Qw_isLetter), (8, (fun _ _ => True), Qw_wordOf)] rfl (ucc w_at (ucc w_isDigit (ucc w_isLetter (ucc w_wordOf uc0)))) ?_
  intro A1 σ hP K hB hW
  unfold Pv_wordT at hP
  split at hP
  next t =>
    obtain ⟨hT0, hs0, hi0, hi1⟩ := hP
    have t99 : ∀ (N : Nat) (Y : RS) (e : Int) (l : List Int) (n : Int32) (h : Int64) (lo : Int32), TvR t.toNatClampNeg σ Y → TxR Y x → (gI Y 13).toInt = e → i ≤ e → e ≤ x.2 → nmY x (x.2 - e).toNat e l = nmY x (x.2 - i).toNat i [] → n.toInt = l.length → (l.length : Int) = e - i → h = hwY l → lo = lwY l → ¬ (isLY (btY x e) ∨ isDY (btY x e)) → K N 99 [(0, .ref 1000), (1, .int t), (2, .int n), (3, .long h), (5, .int lo)] [] Y := by
      intro N Y e l n h lo hL hT hs hie hex hN hn hl hH hG hnc
      have hN2 : nmY x (x.2 - i).toNat i [] = (e, l) := by rw [← hN]; exact nm_no hnc
      refine hB _ _ _ _ _ (fun m1 hm1 => ?_)
      dsimp only [ugo, uwp, ust, uct, rfd, Bword, Nat.beq, lv_args, rlk, rs1, rs2, rdl, rky, rcd, rno, rsw, Value.category, List.filter, List.take, List.drop, List.reverse, List.reverseAux, List.cons_append, List.nil_append, Option.toList, Int.toNat, Int.reduceToNat, if_pos, if_neg, reduceIte, ↓reduceIte, Nat.reduceAdd, Nat.reduceEqDiff, Nat.reduceBEq, beq_self_eq_true, Bool.not_true, Bool.not_false, Bool.and_true, Bool.and_false, Bool.true_and, Bool.false_and, gI_sI, gI_sL, gI_sA, gI_sM, gL_sI, gL_sL, gL_sA, gL_sM, aI_sI, aI_sL, aI_sA, aI_sM, aL_sI, aL_sL, aL_sA, aL_sM, Bword_0, Bword_7, Bword_22, Bword_37, Bword_43, Bword_61, Bword_67, Bword_83, Bword_99, Bword_125, Bword_130, Bword_131, Bword_138, Bword_143, Bword_148, Bword_155, Bword_156, oi_0, oi_1, oi_10, oi_4, oi_6, oi_8, oi_m2]; try dsimp only
      intro p2
      intro p3
      refine ⟨fun h4 => ?_, fun h4 => ?_⟩
      · refine hB _ _ _ _ _ (fun m5 hm5 => ?_)
        dsimp only [ugo, uwp, ust, uct, rfd, Bword, Nat.beq, lv_args, rlk, rs1, rs2, rdl, rky, rcd, rno, rsw, Value.category, List.filter, List.take, List.drop, List.reverse, List.reverseAux, List.cons_append, List.nil_append, Option.toList, Int.toNat, Int.reduceToNat, if_pos, if_neg, reduceIte, ↓reduceIte, Nat.reduceAdd, Nat.reduceEqDiff, Nat.reduceBEq, beq_self_eq_true, Bool.not_true, Bool.not_false, Bool.and_true, Bool.and_false, Bool.true_and, Bool.false_and, gI_sI, gI_sL, gI_sA, gI_sM, gL_sI, gL_sL, gL_sA, gL_sM, aI_sI, aI_sL, aI_sA, aI_sM, aL_sI, aL_sL, aL_sA, aL_sM, Bword_0, Bword_7, Bword_22, Bword_37, Bword_43, Bword_61, Bword_67, Bword_83, Bword_99, Bword_125, Bword_130, Bword_131, Bword_138, Bword_143, Bword_148, Bword_155, Bword_156, oi_0, oi_1, oi_10, oi_4, oi_6, oi_8, oi_m2]; try dsimp only
        refine hB _ _ _ _ _ (fun m6 hm6 => ?_)
        dsimp only [ugo, uwp, ust, uct, rfd, Bword, Nat.beq, lv_args, rlk, rs1, rs2, rdl, rky, rcd, rno, rsw, Value.category, List.filter, List.take, List.drop, List.reverse, List.reverseAux, List.cons_append, List.nil_append, Option.toList, Int.toNat, Int.reduceToNat, if_pos, if_neg, reduceIte, ↓reduceIte, Nat.reduceAdd, Nat.reduceEqDiff, Nat.reduceBEq, beq_self_eq_true, Bool.not_true, Bool.not_false, Bool.and_true, Bool.and_false, Bool.true_and, Bool.false_and, gI_sI, gI_sL, gI_sA, gI_sM, gL_sI, gL_sL, gL_sA, gL_sM, aI_sI, aI_sL, aI_sA, aI_sM, aL_sI, aL_sL, aL_sA, aL_sM, Bword_0, Bword_7, Bword_22, Bword_37, Bword_43, Bword_61, Bword_67, Bword_83, Bword_99, Bword_125, Bword_130, Bword_131, Bword_138, Bword_143, Bword_148, Bword_155, Bword_156, oi_0, oi_1, oi_10, oi_4, oi_6, oi_8, oi_m2]; try dsimp only
        intro p7
        refine ⟨fun h8 => ?_, fun h8 => ?_⟩
        · refine hB _ _ _ _ _ (fun m9 hm9 => ?_)
          dsimp only [ugo, uwp, ust, uct, rfd, Bword, Nat.beq, lv_args, rlk, rs1, rs2, rdl, rky, rcd, rno, rsw, Value.category, List.filter, List.take, List.drop, List.reverse, List.reverseAux, List.cons_append, List.nil_append, Option.toList, Int.toNat, Int.reduceToNat, if_pos, if_neg, reduceIte, ↓reduceIte, Nat.reduceAdd, Nat.reduceEqDiff, Nat.reduceBEq, beq_self_eq_true, Bool.not_true, Bool.not_false, Bool.and_true, Bool.and_false, Bool.true_and, Bool.false_and, gI_sI, gI_sL, gI_sA, gI_sM, gL_sI, gL_sL, gL_sA, gL_sM, aI_sI, aI_sL, aI_sA, aI_sM, aL_sI, aL_sL, aL_sA, aL_sM, Bword_0, Bword_7, Bword_22, Bword_37, Bword_43, Bword_61, Bword_67, Bword_83, Bword_99, Bword_125, Bword_130, Bword_131, Bword_138, Bword_143, Bword_148, Bword_155, Bword_156, oi_0, oi_1, oi_10, oi_4, oi_6, oi_8, oi_m2]; try dsimp only
          refine ⟨trivial, fun w10 τ10 hq10 => ?_⟩
          obtain ⟨rfl, rfl⟩ := hq10 trivial
          dsimp only [Option.toList, List.cons_append, List.nil_append, Nat.beq, gI_sI, gI_sL, gI_sA, gI_sM, gL_sI, gL_sL, gL_sA, gL_sM, aI_sI, aI_sL, aI_sA, aI_sM, aL_sI, aL_sL, aL_sA, aL_sM]
          refine hB _ _ _ _ _ (fun m11 hm11 => ?_)
          dsimp only [ugo, uwp, ust, uct, rfd, Bword, Nat.beq, lv_args, rlk, rs1, rs2, rdl, rky, rcd, rno, rsw, Value.category, List.filter, List.take, List.drop, List.reverse, List.reverseAux, List.cons_append, List.nil_append, Option.toList, Int.toNat, Int.reduceToNat, if_pos, if_neg, reduceIte, ↓reduceIte, Nat.reduceAdd, Nat.reduceEqDiff, Nat.reduceBEq, beq_self_eq_true, Bool.not_true, Bool.not_false, Bool.and_true, Bool.and_false, Bool.true_and, Bool.false_and, gI_sI, gI_sL, gI_sA, gI_sM, gL_sI, gL_sL, gL_sA, gL_sM, aI_sI, aI_sL, aI_sA, aI_sM, aL_sI, aL_sL, aL_sA, aL_sM, Bword_0, Bword_7, Bword_22, Bword_37, Bword_43, Bword_61, Bword_67, Bword_83, Bword_99, Bword_125, Bword_130, Bword_131, Bword_138, Bword_143, Bword_148, Bword_155, Bword_156, oi_0, oi_1, oi_10, oi_4, oi_6, oi_8, oi_m2]; try dsimp only
          refine ⟨fun h12 => ?_, fun h12 => ?_⟩
          · refine hB _ _ _ _ _ (fun m13 hm13 => ?_)
            dsimp only [ugo, uwp, ust, uct, rfd, Bword, Nat.beq, lv_args, rlk, rs1, rs2, rdl, rky, rcd, rno, rsw, Value.category, List.filter, List.take, List.drop, List.reverse, List.reverseAux, List.cons_append, List.nil_append, Option.toList, Int.toNat, Int.reduceToNat, if_pos, if_neg, reduceIte, ↓reduceIte, Nat.reduceAdd, Nat.reduceEqDiff, Nat.reduceBEq, beq_self_eq_true, Bool.not_true, Bool.not_false, Bool.and_true, Bool.and_false, Bool.true_and, Bool.false_and, gI_sI, gI_sL, gI_sA, gI_sM, gL_sI, gL_sL, gL_sA, gL_sM, aI_sI, aI_sL, aI_sA, aI_sM, aL_sI, aL_sL, aL_sA, aL_sM, Bword_0, Bword_7, Bword_22, Bword_37, Bword_43, Bword_61, Bword_67, Bword_83, Bword_99, Bword_125, Bword_130, Bword_131, Bword_138, Bword_143, Bword_148, Bword_155, Bword_156, oi_0, oi_1, oi_10, oi_4, oi_6, oi_8, oi_m2]; try dsimp only
            intro p14
            intro p15
            unfold Qv_wordT
            try dsimp only
            rw [hN2]
            refine ⟨(by repeat (first | exact TvR.rf | exact hL | refine TvR.i ?_ | refine TvR.u ?_ | refine TvR.m ?_ (by decide))), ?_, ?_⟩
            · dsimp only [Nat.beq, gI_sI, gI_sL, gI_sA, gI_sM, gL_sI, gL_sL, gL_sA, gL_sM, aI_sI, aI_sL, aI_sA, aI_sM, aL_sI, aL_sL, aL_sA, aL_sM]; simp only [upd_eq, uL_eq]; exact hH
            · dsimp only [Nat.beq, gI_sI, gI_sL, gI_sA, gI_sM, gL_sI, gL_sL, gL_sA, gL_sM, aI_sI, aI_sL, aI_sA, aI_sM, aL_sI, aL_sL, aL_sA, aL_sM]; simp only [upd_eq, uL_eq]; exact hG
          · refine hB _ _ _ _ _ (fun m16 hm16 => ?_)
            dsimp only [ugo, uwp, ust, uct, rfd, Bword, Nat.beq, lv_args, rlk, rs1, rs2, rdl, rky, rcd, rno, rsw, Value.category, List.filter, List.take, List.drop, List.reverse, List.reverseAux, List.cons_append, List.nil_append, Option.toList, Int.toNat, Int.reduceToNat, if_pos, if_neg, reduceIte, ↓reduceIte, Nat.reduceAdd, Nat.reduceEqDiff, Nat.reduceBEq, beq_self_eq_true, Bool.not_true, Bool.not_false, Bool.and_true, Bool.and_false, Bool.true_and, Bool.false_and, gI_sI, gI_sL, gI_sA, gI_sM, gL_sI, gL_sL, gL_sA, gL_sM, aI_sI, aI_sL, aI_sA, aI_sM, aL_sI, aL_sL, aL_sA, aL_sM, Bword_0, Bword_7, Bword_22, Bword_37, Bword_43, Bword_61, Bword_67, Bword_83, Bword_99, Bword_125, Bword_130, Bword_131, Bword_138, Bword_143, Bword_148, Bword_155, Bword_156, oi_0, oi_1, oi_10, oi_4, oi_6, oi_8, oi_m2]; try dsimp only
            unfold Qv_wordT
            try dsimp only
            rw [hN2]
            refine ⟨(by repeat (first | exact TvR.rf | exact hL | refine TvR.i ?_ | refine TvR.u ?_ | refine TvR.m ?_ (by decide))), ?_, ?_⟩
            · dsimp only [Nat.beq, gI_sI, gI_sL, gI_sA, gI_sM, gL_sI, gL_sL, gL_sA, gL_sM, aI_sI, aI_sL, aI_sA, aI_sM, aL_sI, aL_sL, aL_sA, aL_sM]; simp only [upd_eq, uL_eq]; exact hH
            · dsimp only [Nat.beq, gI_sI, gI_sL, gI_sA, gI_sM, gL_sI, gL_sL, gL_sA, gL_sM, aI_sI, aI_sL, aI_sA, aI_sM, aL_sI, aL_sL, aL_sA, aL_sM]; simp only [upd_eq, uL_eq]; exact hG
        · refine hB _ _ _ _ _ (fun m17 hm17 => ?_)
          dsimp only [ugo, uwp, ust, uct, rfd, Bword, Nat.beq, lv_args, rlk, rs1, rs2, rdl, rky, rcd, rno, rsw, Value.category, List.filter, List.take, List.drop, List.reverse, List.reverseAux, List.cons_append, List.nil_append, Option.toList, Int.toNat, Int.reduceToNat, if_pos, if_neg, reduceIte, ↓reduceIte, Nat.reduceAdd, Nat.reduceEqDiff, Nat.reduceBEq, beq_self_eq_true, Bool.not_true, Bool.not_false, Bool.and_true, Bool.and_false, Bool.true_and, Bool.false_and, gI_sI, gI_sL, gI_sA, gI_sM, gL_sI, gL_sL, gL_sA, gL_sM, aI_sI, aI_sL, aI_sA, aI_sM, aL_sI, aL_sL, aL_sA, aL_sM, Bword_0, Bword_7, Bword_22, Bword_37, Bword_43, Bword_61, Bword_67, Bword_83, Bword_99, Bword_125, Bword_130, Bword_131, Bword_138, Bword_143, Bword_148, Bword_155, Bword_156, oi_0, oi_1, oi_10, oi_4, oi_6, oi_8, oi_m2]; try dsimp only
          refine hB _ _ _ _ _ (fun m18 hm18 => ?_)
          dsimp only [ugo, uwp, ust, uct, rfd, Bword, Nat.beq, lv_args, rlk, rs1, rs2, rdl, rky, rcd, rno, rsw, Value.category, List.filter, List.take, List.drop, List.reverse, List.reverseAux, List.cons_append, List.nil_append, Option.toList, Int.toNat, Int.reduceToNat, if_pos, if_neg, reduceIte, ↓reduceIte, Nat.reduceAdd, Nat.reduceEqDiff, Nat.reduceBEq, beq_self_eq_true, Bool.not_true, Bool.not_false, Bool.and_true, Bool.and_false, Bool.true_and, Bool.false_and, gI_sI, gI_sL, gI_sA, gI_sM, gL_sI, gL_sL, gL_sA, gL_sM, aI_sI, aI_sL, aI_sA, aI_sM, aL_sI, aL_sL, aL_sA, aL_sM, Bword_0, Bword_7, Bword_22, Bword_37, Bword_43, Bword_61, Bword_67, Bword_83, Bword_99, Bword_125, Bword_130, Bword_131, Bword_138, Bword_143, Bword_148, Bword_155, Bword_156, oi_0, oi_1, oi_10, oi_4, oi_6, oi_8, oi_m2]; try dsimp only
          refine ⟨fun h19 => absurd h19 (by decide), fun h19 => ?_⟩
          clear h19
          refine hB _ _ _ _ _ (fun m20 hm20 => ?_)
          dsimp only [ugo, uwp, ust, uct, rfd, Bword, Nat.beq, lv_args, rlk, rs1, rs2, rdl, rky, rcd, rno, rsw, Value.category, List.filter, List.take, List.drop, List.reverse, List.reverseAux, List.cons_append, List.nil_append, Option.toList, Int.toNat, Int.reduceToNat, if_pos, if_neg, reduceIte, ↓reduceIte, Nat.reduceAdd, Nat.reduceEqDiff, Nat.reduceBEq, beq_self_eq_true, Bool.not_true, Bool.not_false, Bool.and_true, Bool.and_false, Bool.true_and, Bool.false_and, gI_sI, gI_sL, gI_sA, gI_sM, gL_sI, gL_sL, gL_sA, gL_sM, aI_sI, aI_sL, aI_sA, aI_sM, aL_sI, aL_sL, aL_sA, aL_sM, Bword_0, Bword_7, Bword_22, Bword_37, Bword_43, Bword_61, Bword_67, Bword_83, Bword_99, Bword_125, Bword_130, Bword_131, Bword_138, Bword_143, Bword_148, Bword_155, Bword_156, oi_0, oi_1, oi_10, oi_4, oi_6, oi_8, oi_m2]; try dsimp only
          unfold Qv_wordT
          try dsimp only
          rw [hN2]
          refine ⟨(by repeat (first | exact TvR.rf | exact hL | refine TvR.i ?_ | refine TvR.u ?_ | refine TvR.m ?_ (by decide))), ?_, ?_⟩
          · dsimp only [Nat.beq, gI_sI, gI_sL, gI_sA, gI_sM, gL_sI, gL_sL, gL_sA, gL_sM, aI_sI, aI_sL, aI_sA, aI_sM, aL_sI, aL_sL, aL_sA, aL_sM]; simp only [upd_eq, uL_eq]; exact hH
          · dsimp only [Nat.beq, gI_sI, gI_sL, gI_sA, gI_sM, gL_sI, gL_sL, gL_sA, gL_sM, aI_sI, aI_sL, aI_sA, aI_sM, aL_sI, aL_sL, aL_sA, aL_sM]; simp only [upd_eq, uL_eq]; exact hG
      · refine hB _ _ _ _ _ (fun m21 hm21 => ?_)
        dsimp only [ugo, uwp, ust, uct, rfd, Bword, Nat.beq, lv_args, rlk, rs1, rs2, rdl, rky, rcd, rno, rsw, Value.category, List.filter, List.take, List.drop, List.reverse, List.reverseAux, List.cons_append, List.nil_append, Option.toList, Int.toNat, Int.reduceToNat, if_pos, if_neg, reduceIte, ↓reduceIte, Nat.reduceAdd, Nat.reduceEqDiff, Nat.reduceBEq, beq_self_eq_true, Bool.not_true, Bool.not_false, Bool.and_true, Bool.and_false, Bool.true_and, Bool.false_and, gI_sI, gI_sL, gI_sA, gI_sM, gL_sI, gL_sL, gL_sA, gL_sM, aI_sI, aI_sL, aI_sA, aI_sM, aL_sI, aL_sL, aL_sA, aL_sM, Bword_0, Bword_7, Bword_22, Bword_37, Bword_43, Bword_61, Bword_67, Bword_83, Bword_99, Bword_125, Bword_130, Bword_131, Bword_138, Bword_143, Bword_148, Bword_155, Bword_156, oi_0, oi_1, oi_10, oi_4, oi_6, oi_8, oi_m2]; try dsimp only
        refine hB _ _ _ _ _ (fun m22 hm22 => ?_)
        dsimp only [ugo, uwp, ust, uct, rfd, Bword, Nat.beq, lv_args, rlk, rs1, rs2, rdl, rky, rcd, rno, rsw, Value.category, List.filter, List.take, List.drop, List.reverse, List.reverseAux, List.cons_append, List.nil_append, Option.toList, Int.toNat, Int.reduceToNat, if_pos, if_neg, reduceIte, ↓reduceIte, Nat.reduceAdd, Nat.reduceEqDiff, Nat.reduceBEq, beq_self_eq_true, Bool.not_true, Bool.not_false, Bool.and_true, Bool.and_false, Bool.true_and, Bool.false_and, gI_sI, gI_sL, gI_sA, gI_sM, gL_sI, gL_sL, gL_sA, gL_sM, aI_sI, aI_sL, aI_sA, aI_sM, aL_sI, aL_sL, aL_sA, aL_sM, Bword_0, Bword_7, Bword_22, Bword_37, Bword_43, Bword_61, Bword_67, Bword_83, Bword_99, Bword_125, Bword_130, Bword_131, Bword_138, Bword_143, Bword_148, Bword_155, Bword_156, oi_0, oi_1, oi_10, oi_4, oi_6, oi_8, oi_m2]; try dsimp only
        intro p23
        refine ⟨fun h24 => ?_, fun h24 => ?_⟩
        · refine hB _ _ _ _ _ (fun m25 hm25 => ?_)
          dsimp only [ugo, uwp, ust, uct, rfd, Bword, Nat.beq, lv_args, rlk, rs1, rs2, rdl, rky, rcd, rno, rsw, Value.category, List.filter, List.take, List.drop, List.reverse, List.reverseAux, List.cons_append, List.nil_append, Option.toList, Int.toNat, Int.reduceToNat, if_pos, if_neg, reduceIte, ↓reduceIte, Nat.reduceAdd, Nat.reduceEqDiff, Nat.reduceBEq, beq_self_eq_true, Bool.not_true, Bool.not_false, Bool.and_true, Bool.and_false, Bool.true_and, Bool.false_and, gI_sI, gI_sL, gI_sA, gI_sM, gL_sI, gL_sL, gL_sA, gL_sM, aI_sI, aI_sL, aI_sA, aI_sM, aL_sI, aL_sL, aL_sA, aL_sM, Bword_0, Bword_7, Bword_22, Bword_37, Bword_43, Bword_61, Bword_67, Bword_83, Bword_99, Bword_125, Bword_130, Bword_131, Bword_138, Bword_143, Bword_148, Bword_155, Bword_156, oi_0, oi_1, oi_10, oi_4, oi_6, oi_8, oi_m2]; try dsimp only
          refine ⟨trivial, fun w26 τ26 hq26 => ?_⟩
          obtain ⟨rfl, rfl⟩ := hq26 trivial
          dsimp only [Option.toList, List.cons_append, List.nil_append, Nat.beq, gI_sI, gI_sL, gI_sA, gI_sM, gL_sI, gL_sL, gL_sA, gL_sM, aI_sI, aI_sL, aI_sA, aI_sM, aL_sI, aL_sL, aL_sA, aL_sM]
          refine hB _ _ _ _ _ (fun m27 hm27 => ?_)
          dsimp only [ugo, uwp, ust, uct, rfd, Bword, Nat.beq, lv_args, rlk, rs1, rs2, rdl, rky, rcd, rno, rsw, Value.category, List.filter, List.take, List.drop, List.reverse, List.reverseAux, List.cons_append, List.nil_append, Option.toList, Int.toNat, Int.reduceToNat, if_pos, if_neg, reduceIte, ↓reduceIte, Nat.reduceAdd, Nat.reduceEqDiff, Nat.reduceBEq, beq_self_eq_true, Bool.not_true, Bool.not_false, Bool.and_true, Bool.and_false, Bool.true_and, Bool.false_and, gI_sI, gI_sL, gI_sA, gI_sM, gL_sI, gL_sL, gL_sA, gL_sM, aI_sI, aI_sL, aI_sA, aI_sM, aL_sI, aL_sL, aL_sA, aL_sM, Bword_0, Bword_7, Bword_22, Bword_37, Bword_43, Bword_61, Bword_67, Bword_83, Bword_99, Bword_125, Bword_130, Bword_131, Bword_138, Bword_143, Bword_148, Bword_155, Bword_156, oi_0, oi_1, oi_10, oi_4, oi_6, oi_8, oi_m2]; try dsimp only
          refine ⟨fun h28 => ?_, fun h28 => ?_⟩
          · refine hB _ _ _ _ _ (fun m29 hm29 => ?_)
            dsimp only [ugo, uwp, ust, uct, rfd, Bword, Nat.beq, lv_args, rlk, rs1, rs2, rdl, rky, rcd, rno, rsw, Value.category, List.filter, List.take, List.drop, List.reverse, List.reverseAux, List.cons_append, List.nil_append, Option.toList, Int.toNat, Int.reduceToNat, if_pos, if_neg, reduceIte, ↓reduceIte, Nat.reduceAdd, Nat.reduceEqDiff, Nat.reduceBEq, beq_self_eq_true, Bool.not_true, Bool.not_false, Bool.and_true, Bool.and_false, Bool.true_and, Bool.false_and, gI_sI, gI_sL, gI_sA, gI_sM, gL_sI, gL_sL, gL_sA, gL_sM, aI_sI, aI_sL, aI_sA, aI_sM, aL_sI, aL_sL, aL_sA, aL_sM, Bword_0, Bword_7, Bword_22, Bword_37, Bword_43, Bword_61, Bword_67, Bword_83, Bword_99, Bword_125, Bword_130, Bword_131, Bword_138, Bword_143, Bword_148, Bword_155, Bword_156, oi_0, oi_1, oi_10, oi_4, oi_6, oi_8, oi_m2]; try dsimp only
            intro p30
            intro p31
            unfold Qv_wordT
            try dsimp only
            rw [hN2]
            refine ⟨(by repeat (first | exact TvR.rf | exact hL | refine TvR.i ?_ | refine TvR.u ?_ | refine TvR.m ?_ (by decide))), ?_, ?_⟩
            · dsimp only [Nat.beq, gI_sI, gI_sL, gI_sA, gI_sM, gL_sI, gL_sL, gL_sA, gL_sM, aI_sI, aI_sL, aI_sA, aI_sM, aL_sI, aL_sL, aL_sA, aL_sM]; simp only [upd_eq, uL_eq]; exact hH
            · dsimp only [Nat.beq, gI_sI, gI_sL, gI_sA, gI_sM, gL_sI, gL_sL, gL_sA, gL_sM, aI_sI, aI_sL, aI_sA, aI_sM, aL_sI, aL_sL, aL_sA, aL_sM]; simp only [upd_eq, uL_eq]; exact hG
          · refine hB _ _ _ _ _ (fun m32 hm32 => ?_)
            dsimp only [ugo, uwp, ust, uct, rfd, Bword, Nat.beq, lv_args, rlk, rs1, rs2, rdl, rky, rcd, rno, rsw, Value.category, List.filter, List.take, List.drop, List.reverse, List.reverseAux, List.cons_append, List.nil_append, Option.toList, Int.toNat, Int.reduceToNat, if_pos, if_neg, reduceIte, ↓reduceIte, Nat.reduceAdd, Nat.reduceEqDiff, Nat.reduceBEq, beq_self_eq_true, Bool.not_true, Bool.not_false, Bool.and_true, Bool.and_false, Bool.true_and, Bool.false_and, gI_sI, gI_sL, gI_sA, gI_sM, gL_sI, gL_sL, gL_sA, gL_sM, aI_sI, aI_sL, aI_sA, aI_sM, aL_sI, aL_sL, aL_sA, aL_sM, Bword_0, Bword_7, Bword_22, Bword_37, Bword_43, Bword_61, Bword_67, Bword_83, Bword_99, Bword_125, Bword_130, Bword_131, Bword_138, Bword_143, Bword_148, Bword_155, Bword_156, oi_0, oi_1, oi_10, oi_4, oi_6, oi_8, oi_m2]; try dsimp only
            unfold Qv_wordT
            try dsimp only
            rw [hN2]
            refine ⟨(by repeat (first | exact TvR.rf | exact hL | refine TvR.i ?_ | refine TvR.u ?_ | refine TvR.m ?_ (by decide))), ?_, ?_⟩
            · dsimp only [Nat.beq, gI_sI, gI_sL, gI_sA, gI_sM, gL_sI, gL_sL, gL_sA, gL_sM, aI_sI, aI_sL, aI_sA, aI_sM, aL_sI, aL_sL, aL_sA, aL_sM]; simp only [upd_eq, uL_eq]; exact hH
            · dsimp only [Nat.beq, gI_sI, gI_sL, gI_sA, gI_sM, gL_sI, gL_sL, gL_sA, gL_sM, aI_sI, aI_sL, aI_sA, aI_sM, aL_sI, aL_sL, aL_sA, aL_sM]; simp only [upd_eq, uL_eq]; exact hG
        · refine hB _ _ _ _ _ (fun m33 hm33 => ?_)
          dsimp only [ugo, uwp, ust, uct, rfd, Bword, Nat.beq, lv_args, rlk, rs1, rs2, rdl, rky, rcd, rno, rsw, Value.category, List.filter, List.take, List.drop, List.reverse, List.reverseAux, List.cons_append, List.nil_append, Option.toList, Int.toNat, Int.reduceToNat, if_pos, if_neg, reduceIte, ↓reduceIte, Nat.reduceAdd, Nat.reduceEqDiff, Nat.reduceBEq, beq_self_eq_true, Bool.not_true, Bool.not_false, Bool.and_true, Bool.and_false, Bool.true_and, Bool.false_and, gI_sI, gI_sL, gI_sA, gI_sM, gL_sI, gL_sL, gL_sA, gL_sM, aI_sI, aI_sL, aI_sA, aI_sM, aL_sI, aL_sL, aL_sA, aL_sM, Bword_0, Bword_7, Bword_22, Bword_37, Bword_43, Bword_61, Bword_67, Bword_83, Bword_99, Bword_125, Bword_130, Bword_131, Bword_138, Bword_143, Bword_148, Bword_155, Bword_156, oi_0, oi_1, oi_10, oi_4, oi_6, oi_8, oi_m2]; try dsimp only
          refine hB _ _ _ _ _ (fun m34 hm34 => ?_)
          dsimp only [ugo, uwp, ust, uct, rfd, Bword, Nat.beq, lv_args, rlk, rs1, rs2, rdl, rky, rcd, rno, rsw, Value.category, List.filter, List.take, List.drop, List.reverse, List.reverseAux, List.cons_append, List.nil_append, Option.toList, Int.toNat, Int.reduceToNat, if_pos, if_neg, reduceIte, ↓reduceIte, Nat.reduceAdd, Nat.reduceEqDiff, Nat.reduceBEq, beq_self_eq_true, Bool.not_true, Bool.not_false, Bool.and_true, Bool.and_false, Bool.true_and, Bool.false_and, gI_sI, gI_sL, gI_sA, gI_sM, gL_sI, gL_sL, gL_sA, gL_sM, aI_sI, aI_sL, aI_sA, aI_sM, aL_sI, aL_sL, aL_sA, aL_sM, Bword_0, Bword_7, Bword_22, Bword_37, Bword_43, Bword_61, Bword_67, Bword_83, Bword_99, Bword_125, Bword_130, Bword_131, Bword_138, Bword_143, Bword_148, Bword_155, Bword_156, oi_0, oi_1, oi_10, oi_4, oi_6, oi_8, oi_m2]; try dsimp only
          refine ⟨fun h35 => absurd h35 (by decide), fun h35 => ?_⟩
          clear h35
          refine hB _ _ _ _ _ (fun m36 hm36 => ?_)
          dsimp only [ugo, uwp, ust, uct, rfd, Bword, Nat.beq, lv_args, rlk, rs1, rs2, rdl, rky, rcd, rno, rsw, Value.category, List.filter, List.take, List.drop, List.reverse, List.reverseAux, List.cons_append, List.nil_append, Option.toList, Int.toNat, Int.reduceToNat, if_pos, if_neg, reduceIte, ↓reduceIte, Nat.reduceAdd, Nat.reduceEqDiff, Nat.reduceBEq, beq_self_eq_true, Bool.not_true, Bool.not_false, Bool.and_true, Bool.and_false, Bool.true_and, Bool.false_and, gI_sI, gI_sL, gI_sA, gI_sM, gL_sI, gL_sL, gL_sA, gL_sM, aI_sI, aI_sL, aI_sA, aI_sM, aL_sI, aL_sL, aL_sA, aL_sM, Bword_0, Bword_7, Bword_22, Bword_37, Bword_43, Bword_61, Bword_67, Bword_83, Bword_99, Bword_125, Bword_130, Bword_131, Bword_138, Bword_143, Bword_148, Bword_155, Bword_156, oi_0, oi_1, oi_10, oi_4, oi_6, oi_8, oi_m2]; try dsimp only
          unfold Qv_wordT
          try dsimp only
          rw [hN2]
          refine ⟨(by repeat (first | exact TvR.rf | exact hL | refine TvR.i ?_ | refine TvR.u ?_ | refine TvR.m ?_ (by decide))), ?_, ?_⟩
          · dsimp only [Nat.beq, gI_sI, gI_sL, gI_sA, gI_sM, gL_sI, gL_sL, gL_sA, gL_sM, aI_sI, aI_sL, aI_sA, aI_sM, aL_sI, aL_sL, aL_sA, aL_sM]; simp only [upd_eq, uL_eq]; exact hH
          · dsimp only [Nat.beq, gI_sI, gI_sL, gI_sA, gI_sM, gL_sI, gL_sL, gL_sA, gL_sM, aI_sI, aI_sL, aI_sA, aI_sM, aL_sI, aL_sL, aL_sA, aL_sM]; simp only [upd_eq, uL_eq]; exact hG
    have loop : ∀ (N : Nat) (Y : RS) (e : Int) (l : List Int) (n : Int32) (h : Int64) (lo : Int32), TvR t.toNatClampNeg σ Y → TxR Y x → (gI Y 13).toInt = e → i ≤ e → e ≤ x.2 → nmY x (x.2 - e).toNat e l = nmY x (x.2 - i).toNat i [] → n.toInt = l.length → (l.length : Int) = e - i → h = hwY l → lo = lwY l → K N 7 [(0, .ref 1000), (1, .int t), (2, .int n), (3, .long h), (5, .int lo)] [] Y := by
      intro N
      induction N using Nat.strongRecOn with
      | ind N loop =>
        have t83 : ∀ (M : Nat), M < N → ∀ (Y : RS) (e : Int) (l : List Int) (n : Int32) (h : Int64) (lo : Int32), TvR t.toNatClampNeg σ Y → TxR Y x → (gI Y 13).toInt = e → i ≤ e → e ≤ x.2 → nmY x (x.2 - e).toNat e l = nmY x (x.2 - i).toNat i [] → n.toInt = l.length → (l.length : Int) = e - i → h = hwY (btY x e :: l) → lo = lwY (btY x e :: l) → isLY (btY x e) ∨ isDY (btY x e) → e < x.2 → K M 83 [(0, .ref 1000), (1, .int t), (2, .int n), (3, .long h), (5, .int lo)] [] Y := by
          intro M hM Y e l n h lo hL hT hs hie hex hN hn hl hH hG hcs hlt
          have hx := hT.2.1.2
          refine hB _ _ _ _ _ (fun m1 hm1 => ?_)
          dsimp only [ugo, uwp, ust, uct, rfd, Bword, Nat.beq, lv_args, rlk, rs1, rs2, rdl, rky, rcd, rno, rsw, Value.category, List.filter, List.take, List.drop, List.reverse, List.reverseAux, List.cons_append, List.nil_append, Option.toList, Int.toNat, Int.reduceToNat, if_pos, if_neg, reduceIte, ↓reduceIte, Nat.reduceAdd, Nat.reduceEqDiff, Nat.reduceBEq, beq_self_eq_true, Bool.not_true, Bool.not_false, Bool.and_true, Bool.and_false, Bool.true_and, Bool.false_and, gI_sI, gI_sL, gI_sA, gI_sM, gL_sI, gL_sL, gL_sA, gL_sM, aI_sI, aI_sL, aI_sA, aI_sM, aL_sI, aL_sL, aL_sA, aL_sM, Bword_0, Bword_7, Bword_22, Bword_37, Bword_43, Bword_61, Bword_67, Bword_83, Bword_99, Bword_125, Bword_130, Bword_131, Bword_138, Bword_143, Bword_148, Bword_155, Bword_156, oi_0, oi_1, oi_10, oi_4, oi_6, oi_8, oi_m2]; try dsimp only
          exact hW _ 7 [(0, .ref 1000), (1, .int t), (2, .int (n + 1)), (3, .long h), (5, .int lo)] _ _ _ (by simp [rdl, rky, Value.category]) (loop _ (by omega) _ (e + 1) (btY x e :: l) (n + 1) h lo (by repeat (first | exact TvR.rf | exact hL | refine TvR.i ?_ | refine TvR.u ?_ | refine TvR.m ?_ (by decide))) (TxR.kp hT rfl rfl) (by show (gI Y 13 + 1).toInt = _; exact i32_p hs (by omega) (by omega)) (by omega) (by omega) (by rw [← hN]; exact (nm_go hlt hcs).symm) (by rw [i32_p hn (by omega) (by omega), List.length_cons]; omega) (by rw [List.length_cons]; omega) hH hG)
        intro Y e l n h lo hL hT hs hie hex hN hn hl hH hG
        have hx := hT.2.1.2
        have c8 := i32_c hn 8
        have c10 := i32_c hn 10
        have e8 : (8 : Int32).toInt = 8 := rfl
        have e10 : (10 : Int32).toInt = 10 := rfl
        rw [e8] at c8
        rw [e10] at c10
        refine hB _ _ _ _ _ (fun m1 hm1 => ?_)
        dsimp only [ugo, uwp, ust, uct, rfd, Bword, Nat.beq, lv_args, rlk, rs1, rs2, rdl, rky, rcd, rno, rsw, Value.category, List.filter, List.take, List.drop, List.reverse, List.reverseAux, List.cons_append, List.nil_append, Option.toList, Int.toNat, Int.reduceToNat, if_pos, if_neg, reduceIte, ↓reduceIte, Nat.reduceAdd, Nat.reduceEqDiff, Nat.reduceBEq, beq_self_eq_true, Bool.not_true, Bool.not_false, Bool.and_true, Bool.and_false, Bool.true_and, Bool.false_and, gI_sI, gI_sL, gI_sA, gI_sM, gL_sI, gL_sL, gL_sA, gL_sM, aI_sI, aI_sL, aI_sA, aI_sM, aL_sI, aL_sL, aL_sA, aL_sM, Bword_0, Bword_7, Bword_22, Bword_37, Bword_43, Bword_61, Bword_67, Bword_83, Bword_99, Bword_125, Bword_130, Bword_131, Bword_138, Bword_143, Bword_148, Bword_155, Bword_156, oi_0, oi_1, oi_10, oi_4, oi_6, oi_8, oi_m2]; try dsimp only
        refine ⟨trivial, fun w2 τ2 hq2 => ?_⟩
        obtain ⟨rfl, r2, rfl, hr2⟩ := hq2 trivial
        dsimp only [Option.toList, List.cons_append, List.nil_append, Nat.beq, gI_sI, gI_sL, gI_sA, gI_sM, gL_sI, gL_sL, gL_sA, gL_sM, aI_sI, aI_sL, aI_sA, aI_sM, aL_sI, aL_sL, aL_sA, aL_sM]
        have ha2 := hr2 x hT
        rw [hs] at ha2
        refine ⟨trivial, fun w3 τ3 hq3 => ?_⟩
        obtain ⟨rfl, hb3⟩ := hq3 trivial
        rcases hb3 with ⟨rfl, hc3⟩ | ⟨rfl, hc3⟩
        · dsimp only [Option.toList, List.cons_append, List.nil_append, Nat.beq, gI_sI, gI_sL, gI_sA, gI_sM, gL_sI, gL_sL, gL_sA, gL_sM, aI_sI, aI_sL, aI_sA, aI_sM, aL_sI, aL_sL, aL_sA, aL_sM]
          refine ⟨fun h4 => ?_, fun h4 => absurd h4 (by decide)⟩
          clear h4
          refine hB _ _ _ _ _ (fun m5 hm5 => ?_)
          dsimp only [ugo, uwp, ust, uct, rfd, Bword, Nat.beq, lv_args, rlk, rs1, rs2, rdl, rky, rcd, rno, rsw, Value.category, List.filter, List.take, List.drop, List.reverse, List.reverseAux, List.cons_append, List.nil_append, Option.toList, Int.toNat, Int.reduceToNat, if_pos, if_neg, reduceIte, ↓reduceIte, Nat.reduceAdd, Nat.reduceEqDiff, Nat.reduceBEq, beq_self_eq_true, Bool.not_true, Bool.not_false, Bool.and_true, Bool.and_false, Bool.true_and, Bool.false_and, gI_sI, gI_sL, gI_sA, gI_sM, gL_sI, gL_sL, gL_sA, gL_sM, aI_sI, aI_sL, aI_sA, aI_sM, aL_sI, aL_sL, aL_sA, aL_sM, Bword_0, Bword_7, Bword_22, Bword_37, Bword_43, Bword_61, Bword_67, Bword_83, Bword_99, Bword_125, Bword_130, Bword_131, Bword_138, Bword_143, Bword_148, Bword_155, Bword_156, oi_0, oi_1, oi_10, oi_4, oi_6, oi_8, oi_m2]; try dsimp only
          have hcs : isLY (btY x e) ∨ isDY (btY x e) := by have q1 := (atR.l ha2).1; have q2 := (atR.l ha2).2.1; omega
          have hlt : e < x.2 := bt_lt (by omega)
          refine ⟨fun h6 => ?_, fun h6 => ?_⟩
          · refine hB _ _ _ _ _ (fun m7 hm7 => ?_)
            dsimp only [ugo, uwp, ust, uct, rfd, Bword, Nat.beq, lv_args, rlk, rs1, rs2, rdl, rky, rcd, rno, rsw, Value.category, List.filter, List.take, List.drop, List.reverse, List.reverseAux, List.cons_append, List.nil_append, Option.toList, Int.toNat, Int.reduceToNat, if_pos, if_neg, reduceIte, ↓reduceIte, Nat.reduceAdd, Nat.reduceEqDiff, Nat.reduceBEq, beq_self_eq_true, Bool.not_true, Bool.not_false, Bool.and_true, Bool.and_false, Bool.true_and, Bool.false_and, gI_sI, gI_sL, gI_sA, gI_sM, gL_sI, gL_sL, gL_sA, gL_sM, aI_sI, aI_sL, aI_sA, aI_sM, aL_sI, aL_sL, aL_sA, aL_sM, Bword_0, Bword_7, Bword_22, Bword_37, Bword_43, Bword_61, Bword_67, Bword_83, Bword_99, Bword_125, Bword_130, Bword_131, Bword_138, Bword_143, Bword_148, Bword_155, Bword_156, oi_0, oi_1, oi_10, oi_4, oi_6, oi_8, oi_m2]; try dsimp only
            refine ⟨fun h8 => ?_, fun h8 => ?_⟩
            · have n10 : ¬ n < 10 := by lia
              have m10 : ¬ l.length < 10 := fun z => n10 (c10.2.mpr (by omega))
              exact hW _ 83 [(0, .ref 1000), (1, .int t), (2, .int n), (3, .long h), (5, .int lo)] _ _ _ (by simp [rdl, rky, Value.category]) (t83 _ (by omega) _ e l n h lo hL hT hs hie hex hN hn hl (by rw [hH]; exact hw_b (by omega)) (by rw [hG]; exact lw_c m10) hcs hlt)
            · refine hB _ _ _ _ _ (fun m9 hm9 => ?_)
              dsimp only [ugo, uwp, ust, uct, rfd, Bword, Nat.beq, lv_args, rlk, rs1, rs2, rdl, rky, rcd, rno, rsw, Value.category, List.filter, List.take, List.drop, List.reverse, List.reverseAux, List.cons_append, List.nil_append, Option.toList, Int.toNat, Int.reduceToNat, if_pos, if_neg, reduceIte, ↓reduceIte, Nat.reduceAdd, Nat.reduceEqDiff, Nat.reduceBEq, beq_self_eq_true, Bool.not_true, Bool.not_false, Bool.and_true, Bool.and_false, Bool.true_and, Bool.false_and, gI_sI, gI_sL, gI_sA, gI_sM, gL_sI, gL_sL, gL_sA, gL_sM, aI_sI, aI_sL, aI_sA, aI_sM, aL_sI, aL_sL, aL_sA, aL_sM, Bword_0, Bword_7, Bword_22, Bword_37, Bword_43, Bword_61, Bword_67, Bword_83, Bword_99, Bword_125, Bword_130, Bword_131, Bword_138, Bword_143, Bword_148, Bword_155, Bword_156, oi_0, oi_1, oi_10, oi_4, oi_6, oi_8, oi_m2]; try dsimp only
              refine ⟨trivial, fun w10 τ10 hq10 => ?_⟩
              obtain ⟨rfl, r10, rfl, hr10⟩ := hq10 trivial
              dsimp only [Option.toList, List.cons_append, List.nil_append, Nat.beq, gI_sI, gI_sL, gI_sA, gI_sM, gL_sI, gL_sL, gL_sA, gL_sM, aI_sI, aI_sL, aI_sA, aI_sM, aL_sI, aL_sL, aL_sA, aL_sM]
              have ha10 := hr10 x hT
              rw [hs] at ha10
              have hz := (atR.l ha10).2.2 (by have := (atR.l ha10); omega)
              have n8 : ¬ n < 8 := by lia
              have m8 : ¬ l.length < 8 := fun z => n8 (c8.2.mpr (by omega))
              have m10 : l.length < 10 := by have := c10.2.mp (by lia); omega
              exact hW _ 83 [(0, .ref 1000), (1, .int t), (2, .int n), (3, .long h), (5, .int (lo <<< (8 &&& 31) ||| r10))] _ _ _ (by simp [rdl, rky, Value.category]) (t83 _ (by omega) _ e l n h (lo <<< (8 &&& 31) ||| r10) hL hT hs hie hex hN hn hl (by rw [hH]; exact hw_b m8) (by rw [hG]; exact lw_b m8 m10 hz) hcs hlt)
          · refine hB _ _ _ _ _ (fun m11 hm11 => ?_)
            dsimp only [ugo, uwp, ust, uct, rfd, Bword, Nat.beq, lv_args, rlk, rs1, rs2, rdl, rky, rcd, rno, rsw, Value.category, List.filter, List.take, List.drop, List.reverse, List.reverseAux, List.cons_append, List.nil_append, Option.toList, Int.toNat, Int.reduceToNat, if_pos, if_neg, reduceIte, ↓reduceIte, Nat.reduceAdd, Nat.reduceEqDiff, Nat.reduceBEq, beq_self_eq_true, Bool.not_true, Bool.not_false, Bool.and_true, Bool.and_false, Bool.true_and, Bool.false_and, gI_sI, gI_sL, gI_sA, gI_sM, gL_sI, gL_sL, gL_sA, gL_sM, aI_sI, aI_sL, aI_sA, aI_sM, aL_sI, aL_sL, aL_sA, aL_sM, Bword_0, Bword_7, Bword_22, Bword_37, Bword_43, Bword_61, Bword_67, Bword_83, Bword_99, Bword_125, Bword_130, Bword_131, Bword_138, Bword_143, Bword_148, Bword_155, Bword_156, oi_0, oi_1, oi_10, oi_4, oi_6, oi_8, oi_m2]; try dsimp only
            refine ⟨trivial, fun w12 τ12 hq12 => ?_⟩
            obtain ⟨rfl, r12, rfl, hr12⟩ := hq12 trivial
            dsimp only [Option.toList, List.cons_append, List.nil_append, Nat.beq, gI_sI, gI_sL, gI_sA, gI_sM, gL_sI, gL_sL, gL_sA, gL_sM, aI_sI, aI_sL, aI_sA, aI_sM, aL_sI, aL_sL, aL_sA, aL_sM]
            have ha12 := hr12 x hT
            rw [hs] at ha12
            have hz := (atR.l ha12).2.2 (by have := (atR.l ha12); omega)
            have m8 : l.length < 8 := by have := c8.2.mp (by lia); omega
            exact hW _ 83 [(0, .ref 1000), (1, .int t), (2, .int n), (3, .long (h <<< (Int32.toInt64 8 &&& 63) ||| r12.toInt64)), (5, .int lo)] _ _ _ (by simp [rdl, rky, Value.category]) (t83 _ (by omega) _ e l n (h <<< (Int32.toInt64 8 &&& 63) ||| r12.toInt64) lo hL hT hs hie hex hN hn hl (by rw [hH]; exact hw_a m8 hz) (by rw [hG]; exact lw_a m8) hcs hlt)
        · dsimp only [Option.toList, List.cons_append, List.nil_append, Nat.beq, gI_sI, gI_sL, gI_sA, gI_sM, gL_sI, gL_sL, gL_sA, gL_sM, aI_sI, aI_sL, aI_sA, aI_sM, aL_sI, aL_sL, aL_sA, aL_sM]
          refine ⟨fun h13 => absurd h13 (by decide), fun h13 => ?_⟩
          clear h13
          refine hB _ _ _ _ _ (fun m14 hm14 => ?_)
          dsimp only [ugo, uwp, ust, uct, rfd, Bword, Nat.beq, lv_args, rlk, rs1, rs2, rdl, rky, rcd, rno, rsw, Value.category, List.filter, List.take, List.drop, List.reverse, List.reverseAux, List.cons_append, List.nil_append, Option.toList, Int.toNat, Int.reduceToNat, if_pos, if_neg, reduceIte, ↓reduceIte, Nat.reduceAdd, Nat.reduceEqDiff, Nat.reduceBEq, beq_self_eq_true, Bool.not_true, Bool.not_false, Bool.and_true, Bool.and_false, Bool.true_and, Bool.false_and, gI_sI, gI_sL, gI_sA, gI_sM, gL_sI, gL_sL, gL_sA, gL_sM, aI_sI, aI_sL, aI_sA, aI_sM, aL_sI, aL_sL, aL_sA, aL_sM, Bword_0, Bword_7, Bword_22, Bword_37, Bword_43, Bword_61, Bword_67, Bword_83, Bword_99, Bword_125, Bword_130, Bword_131, Bword_138, Bword_143, Bword_148, Bword_155, Bword_156, oi_0, oi_1, oi_10, oi_4, oi_6, oi_8, oi_m2]; try dsimp only
          refine ⟨trivial, fun w15 τ15 hq15 => ?_⟩
          obtain ⟨rfl, r15, rfl, hr15⟩ := hq15 trivial
          dsimp only [Option.toList, List.cons_append, List.nil_append, Nat.beq, gI_sI, gI_sL, gI_sA, gI_sM, gL_sI, gL_sL, gL_sA, gL_sM, aI_sI, aI_sL, aI_sA, aI_sM, aL_sI, aL_sL, aL_sA, aL_sM]
          have ha15 := hr15 x hT
          rw [hs] at ha15
          refine ⟨trivial, fun w16 τ16 hq16 => ?_⟩
          obtain ⟨rfl, hb16⟩ := hq16 trivial
          rcases hb16 with ⟨rfl, hc16⟩ | ⟨rfl, hc16⟩
          · dsimp only [Option.toList, List.cons_append, List.nil_append, Nat.beq, gI_sI, gI_sL, gI_sA, gI_sM, gL_sI, gL_sL, gL_sA, gL_sM, aI_sI, aI_sL, aI_sA, aI_sM, aL_sI, aL_sL, aL_sA, aL_sM]
            refine ⟨fun h17 => absurd h17 (by decide), fun h17 => ?_⟩
            clear h17
            refine hB _ _ _ _ _ (fun m18 hm18 => ?_)
            dsimp only [ugo, uwp, ust, uct, rfd, Bword, Nat.beq, lv_args, rlk, rs1, rs2, rdl, rky, rcd, rno, rsw, Value.category, List.filter, List.take, List.drop, List.reverse, List.reverseAux, List.cons_append, List.nil_append, Option.toList, Int.toNat, Int.reduceToNat, if_pos, if_neg, reduceIte, ↓reduceIte, Nat.reduceAdd, Nat.reduceEqDiff, Nat.reduceBEq, beq_self_eq_true, Bool.not_true, Bool.not_false, Bool.and_true, Bool.and_false, Bool.true_and, Bool.false_and, gI_sI, gI_sL, gI_sA, gI_sM, gL_sI, gL_sL, gL_sA, gL_sM, aI_sI, aI_sL, aI_sA, aI_sM, aL_sI, aL_sL, aL_sA, aL_sM, Bword_0, Bword_7, Bword_22, Bword_37, Bword_43, Bword_61, Bword_67, Bword_83, Bword_99, Bword_125, Bword_130, Bword_131, Bword_138, Bword_143, Bword_148, Bword_155, Bword_156, oi_0, oi_1, oi_10, oi_4, oi_6, oi_8, oi_m2]; try dsimp only
            have hcs : isLY (btY x e) ∨ isDY (btY x e) := by have q1 := (atR.l ha15).1; have q2 := (atR.l ha15).2.1; omega
            have hlt : e < x.2 := bt_lt (by omega)
            refine ⟨fun h19 => ?_, fun h19 => ?_⟩
            · refine hB _ _ _ _ _ (fun m20 hm20 => ?_)
              dsimp only [ugo, uwp, ust, uct, rfd, Bword, Nat.beq, lv_args, rlk, rs1, rs2, rdl, rky, rcd, rno, rsw, Value.category, List.filter, List.take, List.drop, List.reverse, List.reverseAux, List.cons_append, List.nil_append, Option.toList, Int.toNat, Int.reduceToNat, if_pos, if_neg, reduceIte, ↓reduceIte, Nat.reduceAdd, Nat.reduceEqDiff, Nat.reduceBEq, beq_self_eq_true, Bool.not_true, Bool.not_false, Bool.and_true, Bool.and_false, Bool.true_and, Bool.false_and, gI_sI, gI_sL, gI_sA, gI_sM, gL_sI, gL_sL, gL_sA, gL_sM, aI_sI, aI_sL, aI_sA, aI_sM, aL_sI, aL_sL, aL_sA, aL_sM, Bword_0, Bword_7, Bword_22, Bword_37, Bword_43, Bword_61, Bword_67, Bword_83, Bword_99, Bword_125, Bword_130, Bword_131, Bword_138, Bword_143, Bword_148, Bword_155, Bword_156, oi_0, oi_1, oi_10, oi_4, oi_6, oi_8, oi_m2]; try dsimp only
              refine ⟨fun h21 => ?_, fun h21 => ?_⟩
              · have n10 : ¬ n < 10 := by lia
                have m10 : ¬ l.length < 10 := fun z => n10 (c10.2.mpr (by omega))
                exact hW _ 83 [(0, .ref 1000), (1, .int t), (2, .int n), (3, .long h), (5, .int lo)] _ _ _ (by simp [rdl, rky, Value.category]) (t83 _ (by omega) _ e l n h lo hL hT hs hie hex hN hn hl (by rw [hH]; exact hw_b (by omega)) (by rw [hG]; exact lw_c m10) hcs hlt)
              · refine hB _ _ _ _ _ (fun m22 hm22 => ?_)
                dsimp only [ugo, uwp, ust, uct, rfd, Bword, Nat.beq, lv_args, rlk, rs1, rs2, rdl, rky, rcd, rno, rsw, Value.category, List.filter, List.take, List.drop, List.reverse, List.reverseAux, List.cons_append, List.nil_append, Option.toList, Int.toNat, Int.reduceToNat, if_pos, if_neg, reduceIte, ↓reduceIte, Nat.reduceAdd, Nat.reduceEqDiff, Nat.reduceBEq, beq_self_eq_true, Bool.not_true, Bool.not_false, Bool.and_true, Bool.and_false, Bool.true_and, Bool.false_and, gI_sI, gI_sL, gI_sA, gI_sM, gL_sI, gL_sL, gL_sA, gL_sM, aI_sI, aI_sL, aI_sA, aI_sM, aL_sI, aL_sL, aL_sA, aL_sM, Bword_0, Bword_7, Bword_22, Bword_37, Bword_43, Bword_61, Bword_67, Bword_83, Bword_99, Bword_125, Bword_130, Bword_131, Bword_138, Bword_143, Bword_148, Bword_155, Bword_156, oi_0, oi_1, oi_10, oi_4, oi_6, oi_8, oi_m2]; try dsimp only
                refine ⟨trivial, fun w23 τ23 hq23 => ?_⟩
                obtain ⟨rfl, r23, rfl, hr23⟩ := hq23 trivial
                dsimp only [Option.toList, List.cons_append, List.nil_append, Nat.beq, gI_sI, gI_sL, gI_sA, gI_sM, gL_sI, gL_sL, gL_sA, gL_sM, aI_sI, aI_sL, aI_sA, aI_sM, aL_sI, aL_sL, aL_sA, aL_sM]
                have ha23 := hr23 x hT
                rw [hs] at ha23
                have hz := (atR.l ha23).2.2 (by have := (atR.l ha23); omega)
                have n8 : ¬ n < 8 := by lia
                have m8 : ¬ l.length < 8 := fun z => n8 (c8.2.mpr (by omega))
                have m10 : l.length < 10 := by have := c10.2.mp (by lia); omega
                exact hW _ 83 [(0, .ref 1000), (1, .int t), (2, .int n), (3, .long h), (5, .int (lo <<< (8 &&& 31) ||| r23))] _ _ _ (by simp [rdl, rky, Value.category]) (t83 _ (by omega) _ e l n h (lo <<< (8 &&& 31) ||| r23) hL hT hs hie hex hN hn hl (by rw [hH]; exact hw_b m8) (by rw [hG]; exact lw_b m8 m10 hz) hcs hlt)
            · refine hB _ _ _ _ _ (fun m24 hm24 => ?_)
              dsimp only [ugo, uwp, ust, uct, rfd, Bword, Nat.beq, lv_args, rlk, rs1, rs2, rdl, rky, rcd, rno, rsw, Value.category, List.filter, List.take, List.drop, List.reverse, List.reverseAux, List.cons_append, List.nil_append, Option.toList, Int.toNat, Int.reduceToNat, if_pos, if_neg, reduceIte, ↓reduceIte, Nat.reduceAdd, Nat.reduceEqDiff, Nat.reduceBEq, beq_self_eq_true, Bool.not_true, Bool.not_false, Bool.and_true, Bool.and_false, Bool.true_and, Bool.false_and, gI_sI, gI_sL, gI_sA, gI_sM, gL_sI, gL_sL, gL_sA, gL_sM, aI_sI, aI_sL, aI_sA, aI_sM, aL_sI, aL_sL, aL_sA, aL_sM, Bword_0, Bword_7, Bword_22, Bword_37, Bword_43, Bword_61, Bword_67, Bword_83, Bword_99, Bword_125, Bword_130, Bword_131, Bword_138, Bword_143, Bword_148, Bword_155, Bword_156, oi_0, oi_1, oi_10, oi_4, oi_6, oi_8, oi_m2]; try dsimp only
              refine ⟨trivial, fun w25 τ25 hq25 => ?_⟩
              obtain ⟨rfl, r25, rfl, hr25⟩ := hq25 trivial
              dsimp only [Option.toList, List.cons_append, List.nil_append, Nat.beq, gI_sI, gI_sL, gI_sA, gI_sM, gL_sI, gL_sL, gL_sA, gL_sM, aI_sI, aI_sL, aI_sA, aI_sM, aL_sI, aL_sL, aL_sA, aL_sM]
              have ha25 := hr25 x hT
              rw [hs] at ha25
              have hz := (atR.l ha25).2.2 (by have := (atR.l ha25); omega)
              have m8 : l.length < 8 := by have := c8.2.mp (by lia); omega
              exact hW _ 83 [(0, .ref 1000), (1, .int t), (2, .int n), (3, .long (h <<< (Int32.toInt64 8 &&& 63) ||| r25.toInt64)), (5, .int lo)] _ _ _ (by simp [rdl, rky, Value.category]) (t83 _ (by omega) _ e l n (h <<< (Int32.toInt64 8 &&& 63) ||| r25.toInt64) lo hL hT hs hie hex hN hn hl (by rw [hH]; exact hw_a m8 hz) (by rw [hG]; exact lw_a m8) hcs hlt)
          · dsimp only [Option.toList, List.cons_append, List.nil_append, Nat.beq, gI_sI, gI_sL, gI_sA, gI_sM, gL_sI, gL_sL, gL_sA, gL_sM, aI_sI, aI_sL, aI_sA, aI_sM, aL_sI, aL_sL, aL_sA, aL_sM]
            refine ⟨fun h26 => ?_, fun h26 => absurd h26 (by decide)⟩
            clear h26
            have hnc : ¬ (isLY (btY x e) ∨ isDY (btY x e)) := by have q1 := (atR.l ha2).1; have q2 := (atR.l ha15).2.1; omega
            exact hW _ 99 [(0, .ref 1000), (1, .int t), (2, .int n), (3, .long h), (5, .int lo)] _ _ _ (by simp [rdl, rky, Value.category]) (t99 _ _ e l n h lo hL hT hs hie hex hN hn hl hH hG hnc)
    intro n0_
    refine hB _ _ _ _ _ (fun m1 hm1 => ?_)
    dsimp only [ugo, uwp, ust, uct, rfd, Bword, Nat.beq, lv_args, rlk, rs1, rs2, rdl, rky, rcd, rno, rsw, Value.category, List.filter, List.take, List.drop, List.reverse, List.reverseAux, List.cons_append, List.nil_append, Option.toList, Int.toNat, Int.reduceToNat, if_pos, if_neg, reduceIte, ↓reduceIte, Nat.reduceAdd, Nat.reduceEqDiff, Nat.reduceBEq, beq_self_eq_true, Bool.not_true, Bool.not_false, Bool.and_true, Bool.and_false, Bool.true_and, Bool.false_and, gI_sI, gI_sL, gI_sA, gI_sM, gL_sI, gL_sL, gL_sA, gL_sM, aI_sI, aI_sL, aI_sA, aI_sM, aL_sI, aL_sL, aL_sA, aL_sM, Bword_0, Bword_7, Bword_22, Bword_37, Bword_43, Bword_61, Bword_67, Bword_83, Bword_99, Bword_125, Bword_130, Bword_131, Bword_138, Bword_143, Bword_148, Bword_155, Bword_156, oi_0, oi_1, oi_10, oi_4, oi_6, oi_8, oi_m2]; try dsimp only
    exact hW _ 7 [(0, .ref 1000), (1, .int t), (2, .int 0), (3, .long 0), (5, .int 0)] _ _ _ (by simp [rdl, rky, Value.category]) (loop _ _ i [] 0 0 0 TvR.rf hT0 hs0 (Int.le_refl _) (by omega) rfl rfl (by show (0 : Int) = i - i; omega) rfl rfl)
  next => exact hP.elim
theorem w_wordT : UMet 7 (fun _ _ => True) Qw_wordT := fun A1 σ _ w τ h x i hP => v_wordT x i A1 σ hP w τ h
