/-! the reference's flow: what stands open inside an exp -/
/-- frames, what the class left for later, how many stand open -/
def OpR (σ : RS) : MkF → List Int64 → Nat → Prop
  | [], A, n => A = [] ∧ n = 0
  | (k, _, _) :: F, A, n => ∃ n' A', n = n' + 1 ∧ (if k = 3 then A = aL σ 102 n' :: aL σ 101 n' :: A' else if k = 1 then A = aL σ 101 n' :: A' else A = aL σ 102 n' :: A') ∧ OpR σ F A' n'
theorem OpR.fr {σ τ : RS} : ∀ {F : MkF} {A : List Int64} {n : Nat}, (∀ i, i < n → aL τ 101 i = aL σ 101 i ∧ aL τ 102 i = aL σ 102 i) → OpR σ F A n → OpR τ F A n := by
  intro F
  induction F with
  | nil => exact fun _ h => h
  | cons x F ih =>
    obtain ⟨k, a, b⟩ := x
    intro A n h q
    obtain ⟨n', A', rfl, e, q⟩ := q
    refine ⟨n', A', rfl, ?_, ih (fun i hi => h i (by omega)) q⟩
    rw [(h n' (Nat.lt_succ_self _)).1, (h n' (Nat.lt_succ_self _)).2]
    exact e
theorem OpR.le {σ : RS} : ∀ {F : MkF} {A : List Int64} {n : Nat}, OpR σ F A n → n = F.length := by
  intro F
  induction F with
  | nil => exact fun h => h.2
  | cons x F ih =>
    obtain ⟨k, a, b⟩ := x
    intro A n q
    obtain ⟨n', A', rfl, _, q⟩ := q
    rw [List.length_cons, ih q]
theorem i32_prd {x : Int32} {n : Nat} (h : x.toInt = ((n + 1 : Nat) : Int)) (hn : n ≤ 10000) : (x - 1).toInt = (n : Int) := by
  have e := i32_add (x := Int32.ofInt (n : Int)) (by rw [Int32.toInt_ofInt_of_le (by omega) (by omega)]; omega) (by rw [Int32.toInt_ofInt_of_le (by omega) (by omega)]; omega)
  rw [Int32.toInt_ofInt_of_le (by omega) (by omega)] at e
  have e2 : x = Int32.ofInt (n : Int) + 1 := Int32.toInt_inj.mp (by rw [h, e]; omega)
  rw [e2, Int32.add_sub_cancel, Int32.toInt_ofInt_of_le (by omega) (by omega)]
/-- exps: bits, what stands open -/
def XvR (σ : RS) (F : MkF) (t f : Int64) (A : List Int64) : Prop := gL σ 93 = t ∧ gL σ 94 = f ∧ (gI σ 100).toInt = (F.length : Int) ∧ OpR σ F A F.length
section
variable {σ : RS} {F : MkF} {t f : Int64} {A : List Int64} {a b : Int} {c : Int32}
/-- && and ?: a frame more -/
theorem xv_and {k : Int} (h : XvR σ F t f A) (hF : F.length ≤ 100) (hk : k = 0 ∨ k = 2) : XvR (beS (sI (sM σ 102 (vp_updL (aL σ 102) (gI σ 100).toNatClampNeg (gL σ 94))) 100 (gI σ 100 + 1)) (gL σ 93)) ((k, a, b) :: F) t t (f :: A) := by
  obtain ⟨h1, h2, h3, h4⟩ := h
  rw [nT_x h3, h1, h2]
  refine ⟨rfl, rfl, ?_, F.length, A, rfl, ?_, OpR.fr (σ := σ) (fun i hi => ⟨rfl, if_neg (by omega)⟩) h4⟩
  · show (gI σ 100 + 1).toInt = _
    rw [i32_add (by omega) (by omega), h3, List.length_cons]
    omega
  · rw [if_neg (by omega), if_neg (by omega)]
    congr 1
    exact (if_pos rfl).symm
/-- || -/
theorem xv_or (h : XvR σ F t f A) (hF : F.length ≤ 100) : XvR (beS (sI (sM σ 101 (vp_updL (aL σ 101) (gI σ 100).toNatClampNeg (gL σ 93))) 100 (gI σ 100 + 1)) (gL σ 94)) ((1, a, b) :: F) f f (t :: A) := by
  obtain ⟨h1, h2, h3, h4⟩ := h
  rw [nT_x h3, h1, h2]
  refine ⟨rfl, rfl, ?_, F.length, A, rfl, ?_, OpR.fr (σ := σ) (fun i hi => ⟨if_neg (by omega), rfl⟩) h4⟩
  · show (gI σ 100 + 1).toInt = _
    rw [i32_add (by omega) (by omega), h3, List.length_cons]
    omega
  · rw [if_neg (by decide), if_pos rfl]
    congr 1
    exact (if_pos rfl).symm
/-- behind && -/
theorem xv_af (h : XvR σ ((0, a, b) :: F) t f A) (hF : F.length ≤ 100) : ∃ v A', A = v :: A' ∧ XvR (sL (sI σ 100 (gI σ 100 - 1)) 94 (gL σ 94 &&& aL σ 102 (gI σ 100 - 1).toNatClampNeg)) F t (f &&& v) A' := by
  obtain ⟨h1, h2, h3, n', A', e, h4, h5⟩ := h
  rw [List.length_cons] at h3 e
  have e : n' = F.length := by omega
  subst e
  have p := i32_prd h3 (by omega)
  rw [if_neg (by decide), if_neg (by decide)] at h4
  refine ⟨_, A', h4, h1, ?_, p, OpR.fr (σ := σ) (fun i _ => ⟨rfl, rfl⟩) h5⟩
  show gL σ 94 &&& aL σ 102 (gI σ 100 - 1).toNatClampNeg = _
  rw [nT_x p, h2]
/-- behind || -/
theorem xv_ot (h : XvR σ ((1, a, b) :: F) t f A) (hF : F.length ≤ 100) : ∃ v A', A = v :: A' ∧ XvR (sL (sI σ 100 (gI σ 100 - 1)) 93 (gL σ 93 &&& aL σ 101 (gI σ 100 - 1).toNatClampNeg)) F (t &&& v) f A' := by
  obtain ⟨h1, h2, h3, n', A', e, h4, h5⟩ := h
  rw [List.length_cons] at h3 e
  have e : n' = F.length := by omega
  subst e
  have p := i32_prd h3 (by omega)
  rw [if_neg (by decide), if_pos rfl] at h4
  refine ⟨_, A', h4, ?_, h2, p, OpR.fr (σ := σ) (fun i _ => ⟨rfl, rfl⟩) h5⟩
  show gL σ 93 &&& aL σ 101 (gI σ 100 - 1).toNatClampNeg = _
  rw [nT_x p, h1]
/-- the other side of a choice -/
theorem xv_el {a' b' : Int} (h : XvR σ ((2, a, b) :: F) t f A) (hF : F.length ≤ 100) : ∃ v A', A = v :: A' ∧ XvR (beS (sM (sM σ 101 (vp_updL (aL σ 101) (gI σ 100 - 1).toNatClampNeg (gL σ 93))) 102 (vp_updL (aL σ 102) (gI σ 100 - 1).toNatClampNeg (gL σ 94))) (aL σ 102 (gI σ 100 - 1).toNatClampNeg)) ((3, a', b') :: F) v v (f :: t :: A') := by
  obtain ⟨h1, h2, h3, n', A', e, h4, h5⟩ := h
  rw [List.length_cons] at h3 e
  have e : n' = F.length := by omega
  subst e
  have p := i32_prd h3 (by omega)
  rw [if_neg (by decide), if_neg (by decide)] at h4
  rw [nT_x p, h1, h2]
  refine ⟨_, A', h4, rfl, rfl, h3, F.length, A', rfl, ?_, OpR.fr (σ := σ) (fun i hi => ⟨if_neg (by omega), if_neg (by omega)⟩) h5⟩
  rw [if_pos rfl]
  have e1 : (vp_updL (aL σ 102) F.length f) F.length = f := if_pos rfl
  have e2 : (vp_updL (aL σ 101) F.length t) F.length = t := if_pos rfl
  show f :: t :: A' = (vp_updL (aL σ 102) F.length f) F.length :: (vp_updL (aL σ 101) F.length t) F.length :: A'
  rw [e1, e2]
/-- behind a choice -/
theorem xv_ch (h : XvR σ ((3, a, b) :: F) t f A) (hF : F.length ≤ 100) : ∃ vf vt A', A = vf :: vt :: A' ∧ XvR (sL (sL (sI σ 100 (gI σ 100 - 1)) 93 (gL σ 93 &&& aL σ 101 (gI σ 100 - 1).toNatClampNeg)) 94 (gL σ 94 &&& aL σ 102 (gI σ 100 - 1).toNatClampNeg)) F (t &&& vt) (f &&& vf) A' := by
  obtain ⟨h1, h2, h3, n', A', e, h4, h5⟩ := h
  rw [List.length_cons] at h3 e
  have e : n' = F.length := by omega
  subst e
  have p := i32_prd h3 (by omega)
  rw [if_pos rfl] at h4
  refine ⟨_, _, A', h4, ?_, ?_, p, OpR.fr (σ := σ) (fun i _ => ⟨rfl, rfl⟩) h5⟩
  · show gL σ 93 &&& aL σ 101 (gI σ 100 - 1).toNatClampNeg = _
    rw [nT_x p, h1]
  · show gL σ 94 &&& aL σ 102 (gI σ 100 - 1).toNatClampNeg = _
    rw [nT_x p, h2]
end
