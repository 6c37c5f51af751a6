/-! methods of what is read: what the reference asks of them where it judges -/
/-- NAMES that mean out, in -/
def WoK (N : Int → Int) (σ : RS) (Ko Ki : Int) : Prop := ∀ t : Nat, t < nT (gI σ 2) → t ≤ 500 → aI σ 3 t = 1 → ((aL σ 7 t = Int64.ofInt 7304564 ∧ aI σ 5 t = 3) ↔ N (t : Int) = Ko) ∧ ((aL σ 7 t = Int64.ofInt 26990 ∧ aI σ 5 t = 2) ↔ N (t : Int) = Ki)
section
variable {N : Int → Int} {σ Y : RS} {z : ZS} {Ko Ki : Int}
/-- NAMES of methods are tokens of NAMES -/
theorem mn_tk (R : RdW N σ z) (A : AkI z) {i : Nat} (h : i < nT (gI σ 36)) : (0 ≤ (aI σ 37 i).toInt ∧ (aI σ 37 i).toInt < zAt z.1) ∧ zK z.1 (aI σ 37 i).toInt.toNat = 80 := by
  obtain ⟨_, r3, _⟩ := R.ms
  have m : ((aI σ 37 i).toInt, (aI σ 38 i).toInt, plR (aI σ 44) (nT (aI σ 40 i)) (nT (aI σ 39 i))) ∈ zMs z.1 := by
    rw [r3]
    exact mth_mem (k := i) (by rw [mth_ml, if_pos h])
  have q : (aI σ 37 i).toInt ∈ (zMs z.1).map (fun m => m.1) := List.mem_map.mpr ⟨_, m, rfl⟩
  refine ⟨(A.1 _).2 ?_, A.2.2 _ q⟩
  have := List.count_pos_iff.mpr q
  unfold ckZ
  omega
theorem jf_mp (R : RdW N σ z) (V : V4R σ) (hY : JfR (sI σ 68 1) Y) {m : Int32} (h0 : 0 ≤ m.toInt) (h1 : m.toInt < 12) {e : MtT} (he : msM N Ko Ki z.1 m.toInt.toNat = some e) : MpR Y m e.2.2 ∧ (if m = 10 then (5 : Int32) else if m = 11 then 3 else aI Y 38 m.toNatClampNeg).toInt = e.2.1 := by
  have aa : ∀ k, bJ k = false → aI Y k = aI σ k := fun k hk => hY.2.2.1 k hk
  have e10 : m = 10 ↔ m.toInt = 10 := Int32.toInt_inj.symm
  have e11 : m = 11 ↔ m.toInt = 11 := Int32.toInt_inj.symm
  have mN : m.toNatClampNeg = m.toInt.toNat := rfl
  obtain ⟨⟨r1, r2⟩, r3, r4⟩ := R.ms
  have n36 := (nt_pos r1).1
  have l := Int32.le_iff_toInt_le.mp r2
  have l : (gI σ 36).toInt ≤ 10 := l
  unfold MpR
  rcases (ms_some (Ko := Ko) (Ki := Ki) R).mp ⟨e, he⟩ with c | c | c
  · have n10 : ¬ m = 10 := fun q => by have := e10.mp q; omega
    have n11 : ¬ m = 11 := fun q => by have := e11.mp q; omega
    rw [ms_own R c] at he
    obtain rfl := Option.some.inj he
    obtain ⟨⟨v1, v2⟩, _⟩ := V _ c
    have r4 := r4 _ c
    have h60 := R.vs
    have n40 : ((nT (aI σ 40 m.toInt.toNat) : Nat) : Int) = (aI σ 40 m.toInt.toNat).toInt := Int.toNat_of_nonneg v1
    have n39 : ((nT (aI σ 39 m.toInt.toNat) : Nat) : Int) = (aI σ 39 m.toInt.toNat).toInt := Int.toNat_of_nonneg v2
    have n42 : nT (gI σ 42) ≤ 60 := by
      show (gI σ 42).toInt.toNat ≤ 60
      omega
    have len : (plR (aI σ 44) (nT (aI σ 40 m.toInt.toNat)) (nT (aI σ 39 m.toInt.toNat))).reverse.length = nT (aI σ 39 m.toInt.toNat) := by rw [List.length_reverse, pl_len]
    refine ⟨⟨?_, fun i i0 i1 => ?_⟩, ?_⟩
    · rw [if_neg n10, if_neg n11, mN, aa 39 rfl, len, n39]
    · have i1 : i.toInt < ((plR (aI σ 44) (nT (aI σ 40 m.toInt.toNat)) (nT (aI σ 39 m.toInt.toNat))).reverse.length : Int) := i1
      rw [len] at i1
      rw [if_neg n10, mN, aa 40 rfl, aa 44 rfl]
      show _ = (plR (aI σ 44) (nT (aI σ 40 m.toInt.toNat)) (nT (aI σ 39 m.toInt.toNat))).reverse.getD i.toInt.toNat 0
      rw [pl_get _ _ (by omega)]
      have b40 : (aI σ 40 m.toInt.toNat).toInt ≤ 100000 := by omega
      have bi : i.toInt ≤ 100 := by omega
      have s := i32_pk rfl v1 b40 i0 bi
      have sn : (aI σ 40 m.toInt.toNat + i).toNatClampNeg = nT (aI σ 40 m.toInt.toNat) + i.toInt.toNat := by
        show (aI σ 40 m.toInt.toNat + i).toInt.toNat = _
        omega
      rw [sn]
    · rw [if_neg n10, if_neg n11, mN, aa 38 rfl]
  · have m10 := e10.mpr (by omega)
    rw [c] at he
    have he : some (Ko, (5 : Int), [(4 : Int)]) = some e := he
    obtain rfl := Option.some.inj he
    rw [if_pos m10, if_pos m10]
    refine ⟨⟨rfl, fun i i0 i1 => ?_⟩, rfl⟩
    have i1 : i.toInt < 1 := i1
    rw [if_pos m10, show i.toInt.toNat = 0 by omega]
    rfl
  · have m11 := e11.mpr (by omega)
    have n10 : ¬ m = 10 := fun q => by have := e10.mp q; omega
    rw [c] at he
    have he : some (Ki, (3 : Int), ([] : List Int)) = some e := he
    obtain rfl := Option.some.inj he
    rw [if_neg n10, if_pos m11, if_neg n10, if_pos m11]
    exact ⟨⟨rfl, fun i i0 i1 => absurd i1 (by show ¬ i.toInt < 0; omega)⟩, rfl⟩
/-- a NAME is a method's -/
theorem jf_nm (R : RdW N σ z) (A : AkI z) (W : WoK N σ Ko Ki) (hY : JfR (sI σ 68 1) Y) {m : Int32} (h0 : 0 ≤ m.toInt) (h1 : m.toInt < 12) {e : MtT} (he : msM N Ko Ki z.1 m.toInt.toNat = some e) {q : Int} (q0 : 0 ≤ q) (q1 : q < zAt z.1) (q2 : zK z.1 q.toNat = 80) : nmR Y m q.toNat ↔ e.1 = N q := by
  have aa : ∀ k, bJ k = false → aI Y k = aI σ k := fun k hk => hY.2.2.1 k hk
  have a7 : aL Y 7 = aL σ 7 := hY.2.2.2 7 (by decide) (by decide) (by decide) (by decide)
  have e10 : m = 10 ↔ m.toInt = 10 := Int32.toInt_inj.symm
  have lt10 : m < 10 ↔ m.toInt < 10 := Int32.lt_iff_toInt_lt
  have gt10 : 10 < m ↔ 10 < m.toInt := Int32.lt_iff_toInt_lt
  have mN : m.toNatClampNeg = m.toInt.toNat := rfl
  have tq := R.tk q0 q1 q2
  have qn : ((q.toNat : Nat) : Int) = q := Int.toNat_of_nonneg q0
  have wo := W q.toNat tq.1 tq.2.1 tq.2.2
  rw [qn] at wo
  obtain ⟨⟨r1, r2⟩, r3, r4⟩ := R.ms
  have n36 := (nt_pos r1).1
  have l := Int32.le_iff_toInt_le.mp r2
  have l : (gI σ 36).toInt ≤ 10 := l
  unfold nmR sameR
  rw [a7, aa 8 rfl, aa 5 rfl, aa 37 rfl, mN]
  rcases (ms_some (Ko := Ko) (Ki := Ki) R).mp ⟨e, he⟩ with c | c | c
  · rw [ms_own R c] at he
    obtain rfl := Option.some.inj he
    obtain ⟨⟨k0, k1⟩, k2⟩ := mn_tk R A c
    have tm := R.tk k0 k1 k2
    have nm := R.1.2.2.2.1.2 (aI σ 37 m.toInt.toNat).toInt.toNat q.toNat tm.1 tq.1 tm.2.1 tq.2.1 tm.2.2 tq.2.2
    have mn : (((aI σ 37 m.toInt.toNat).toInt.toNat : Nat) : Int) = (aI σ 37 m.toInt.toNat).toInt := Int.toNat_of_nonneg k0
    rw [mn, qn] at nm
    have cl : (aI σ 37 m.toInt.toNat).toNatClampNeg = (aI σ 37 m.toInt.toNat).toInt.toNat := rfl
    rw [cl]
    show _ ↔ N (aI σ 37 m.toInt.toNat).toInt = N q
    rw [← nm]
    constructor
    · rintro (⟨_, g⟩ | ⟨g, _⟩ | ⟨g, _⟩)
      · exact g
      · have := e10.mp g
        omega
      · have := gt10.mp g
        omega
    · exact fun g => Or.inl ⟨lt10.mpr (by omega), g⟩
  · rw [c] at he
    have he : some (Ko, (5 : Int), [(4 : Int)]) = some e := he
    obtain rfl := Option.some.inj he
    show _ ↔ Ko = N q
    rw [eq_comm (a := Ko), ← wo.1]
    constructor
    · rintro (⟨g, _⟩ | ⟨_, g⟩ | ⟨g, _⟩)
      · have := lt10.mp g
        omega
      · exact g
      · have := gt10.mp g
        omega
    · exact fun g => Or.inr (Or.inl ⟨e10.mpr (by omega), g⟩)
  · rw [c] at he
    have he : some (Ki, (3 : Int), ([] : List Int)) = some e := he
    obtain rfl := Option.some.inj he
    show _ ↔ Ki = N q
    rw [eq_comm (a := Ki), ← wo.2]
    constructor
    · rintro (⟨g, _⟩ | ⟨g, _⟩ | ⟨_, g⟩)
      · have := lt10.mp g
        omega
      · have := e10.mp g
        omega
      · exact g
    · exact fun g => Or.inr (Or.inr ⟨gt10.mpr (by omega), g⟩)
theorem jf_36 (R : RdW N σ z) (hY : JfR (sI σ 68 1) Y) : gI Y 36 = gI σ 36 := hY.1 36 (by decide) (by decide) (by decide) (by decide) (by decide) (by decide)
/-- MsR: what a call's NAME means -/
theorem msr_of (R : RdW N σ z) (A : AkI z) (V : V4R σ) (W : WoK N σ Ko Ki) (hY : JfR (sI σ 68 1) Y) {t : Int32} {q : Int} (ht : t.toInt = q) (q0 : 0 ≤ q) (q1 : q < zAt z.1) (q2 : zK z.1 q.toNat = 80) : MsR Y t (N q) (msM N Ko Ki z.1) := fun m m0 m1 => by
  obtain ⟨⟨r1, r2⟩, r3, r4⟩ := R.ms
  have n36 := (nt_pos r1).1
  have tn : t.toNatClampNeg = q.toNat := by
    show t.toInt.toNat = _
    rw [ht]
  refine ⟨?_, fun e he => ?_⟩
  · rw [ms_some R, jf_36 R hY]
    constructor
    · intro h; omega
    · intro h; omega
  · have r := jf_mp R V hY m0 m1 he
    rw [tn]
    exact ⟨jf_nm R A W hY m0 m1 he q0 q1 q2, r.1, r.2⟩
/-- MtR: methods among themselves -/
theorem mtr_of (R : RdW N σ z) (A : AkI z) (V : V4R σ) (W : WoK N σ Ko Ki) (hY : JfR (sI σ 68 1) Y) : MtR Y (msM N Ko Ki z.1) (nT (gI σ 36)) := by
  obtain ⟨⟨r1, r2⟩, r3, r4⟩ := R.ms
  have n36 := (nt_pos r1).1
  have l := Int32.le_iff_toInt_le.mp r2
  have l : (gI σ 36).toInt ≤ 10 := l
  refine ⟨⟨by rw [jf_36 R hY]; exact n36, by omega⟩, fun m m0 m1 => ⟨?_, fun e he => ⟨(jf_mp R V hY m0 m1 he).1, fun k k0 k1 f hf => ?_⟩⟩⟩
  · rw [ms_some R]
    constructor
    · intro h; omega
    · intro h; omega
  · have kl : k.toInt.toNat < nT (gI σ 36) := by omega
    obtain ⟨⟨t0, t1⟩, t2⟩ := mn_tk R A kl
    rw [ms_own R kl] at hf
    obtain rfl := Option.some.inj hf
    have kN : k.toNatClampNeg = k.toInt.toNat := rfl
    have e37 : aI Y 37 = aI σ 37 := hY.2.2.1 37 rfl
    rw [e37, kN]
    exact jf_nm R A W hY m0 m1 he t0 t1 t2
end
