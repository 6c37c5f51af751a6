def FF (σ : RS) : List (Nat × Nat) := Fs (aI σ 63) (aI σ 64) (aI σ 65) (nT (gI σ 62))
theorem FF_of {σ τ : RS} (h0 : gI τ 62 = gI σ 62) (h1 : aI τ 63 = aI σ 63) (h2 : aI τ 64 = aI σ 64) (h3 : aI τ 65 = aI σ 65) : FF τ = FF σ := by
  unfold FF
  rw [h0, h1, h2, h3]
theorem FF_ff {σ τ : RS} (h : Ff σ τ) : FF τ = FF σ := FF_of h.2.2.1 h.2.2.2.1 h.2.2.2.2.1 h.2.2.2.2.2.1
theorem aI_th {σ : RS} {s t : Int32} {r : Nat} (h : 62 ≤ r) : aI (th σ s t) r = aI σ r := by
  unfold th
  repeat rw [aI_ne (by omega)]
  rfl
theorem FF_em {σ : RS} {o a t : Int32} : FF (em σ o a t) = FF σ := FF_of rfl (aI_em (by omega)) (aI_em (by omega)) (aI_em (by omega))
theorem FF_th {σ : RS} {s t : Int32} : FF (th σ s t) = FF σ := FF_of rfl (aI_th (by omega)) (aI_th (by omega)) (aI_th (by omega))
theorem FF_sI {σ : RS} {k : Nat} {v : Int32} (h : k ≠ 62) : FF (sI σ k v) = FF σ := FF_of (by rw [gI_sI, nb_ne (Ne.symm h)]) rfl rfl rfl
theorem FF_sA {σ : RS} {k : Nat} {f : Nat → Int32} (h : k < 63 ∨ 65 < k) : FF (sA σ k f) = FF σ := FF_of rfl (aI_ne (by omega)) (aI_ne (by omega)) (aI_ne (by omega))
theorem FF_fo {σ : RS} {s k p : Int32} (h : 0 ≤ gI σ 62 ∧ gI σ 62 ≤ 40) : FF (fo σ s k p) = fit s k p ++ FF σ := by
  have hN : nT (gI (fo σ s k p) 62) = nT (gI σ 62) + 1 := nT_add h.1 (by lia)
  unfold FF
  rw [hN]
  exact Fs_push
theorem FF_pop {σ : RS} (h : 0 < gI σ 62) : FF σ = fit (aI σ 63 (nT (gI σ 62 - 1))) (aI σ 64 (nT (gI σ 62 - 1))) (aI σ 65 (nT (gI σ 62 - 1))) ++ Fs (aI σ 63) (aI σ 64) (aI σ 65) (nT (gI σ 62 - 1)) := by
  have hN := nT_sub h
  unfold FF
  rw [hN]
  rfl
theorem fit1 {t p : Int32} : fit 1 t p = [(20, nT p)] := rfl
theorem fit2 {t p : Int32} : fit 2 t p = [(23, nT t), (20, nT p)] := rfl
theorem fit3 {t p : Int32} : fit 3 t p = [(24, nT t), (20, nT p)] := rfl
theorem fit4 {t p : Int32} : fit 4 t p = [(27, nT t), (20, nT p)] := rfl
theorem fit5 {t p : Int32} : fit 5 t p = [(29, nT t), (20, nT p)] := rfl
theorem fit6 {t p : Int32} : fit 6 t p = [(35, nT t), (20, nT p)] := rfl
theorem fit7 {t p : Int32} : fit 7 t p = [(41, nT t), (20, nT p)] := rfl
theorem fit8 {t p : Int32} : fit 8 t p = [(37, nT t), (20, nT p)] := rfl
theorem fit9 {t p : Int32} : fit 9 t p = [(50, nT t), (20, nT p)] := rfl
theorem fit10 {t p : Int32} : fit 10 t p = [(51, nT t), (20, nT p)] := rfl
theorem fit11 {t p : Int32} : fit 11 t p = [(52, nT t), (20, nT p)] := rfl
theorem fit0 {t p : Int32} : fit 0 t p = [] := rfl
def MF (σ : RS) : Prop := 0 < gI σ 36 ∧ (∀ i, i < nT (gI σ 62) → aI σ 63 i = 0 → i = 0) ∧ 0 < gI σ 62 ∧ aI σ 63 0 = 0
theorem MF.of {σ τ : RS} (h : MF σ) (h36 : gI τ 36 = gI σ 36) (h62 : gI τ 62 = gI σ 62) (h63 : aI τ 63 = aI σ 63) : MF τ := by
  unfold MF
  rw [h36, h62, h63]
  exact h
theorem MF.ff {σ τ : RS} (hf : Ff σ τ) (h : MF σ) : MF τ := h.of hf.1 hf.2.2.1 hf.2.2.2.1
theorem MF.fop {σ : RS} {s k p : Int32} (h : MF σ) (hs : s ≠ 0) (hb : 0 ≤ gI σ 62 ∧ gI σ 62 ≤ 40) : MF (fo σ s k p) := by
  have hN : nT (gI σ 62 + 1) = nT (gI σ 62) + 1 := nT_add hb.1 (by lia)
  refine ⟨h.1, fun i hi hz => ?_, ?_, ?_⟩
  rotate_left
  · show 0 < gI σ 62 + 1
    lia
  · show upd (aI σ 63) (nT (gI σ 62)) s 0 = 0
    have hq := nT_sub h.2.2.1
    rw [upd_ne (by omega)]
    exact h.2.2.2
  have hi : i < nT (gI σ 62 + 1) := hi
  have hz : upd (aI σ 63) (nT (gI σ 62)) s i = 0 := hz
  by_cases q : i = nT (gI σ 62)
  · subst q
    rw [upd_eq] at hz
    exact absurd hz hs
  · rw [upd_ne q] at hz
    exact h.2.1 i (by omega) hz
theorem MF.nz {σ : RS} (h : MF σ) (hs : ¬ aI σ 63 (nT (gI σ 62 - 1)) = 0) : ¬ gI σ 62 - 1 = 0 := by
  intro e
  have n0 : nT (0 : Int32) = 0 := by decide
  rw [e, n0] at hs
  exact hs h.2.2.2
theorem MF.pop {σ τ : RS} (h : MF σ) (hp : 0 < gI σ 62) (hs : ¬ aI σ 63 (nT (gI σ 62 - 1)) = 0) (h36 : gI τ 36 = gI σ 36) (h62 : gI τ 62 = gI σ 62 - 1) (h63 : aI τ 63 = aI σ 63) : MF τ := by
  have hN := nT_sub hp
  have hz := h.nz hs
  unfold MF
  rw [h36, h62, h63]
  exact ⟨h.1, fun i hi => h.2.1 i (by omega), by lia, h.2.2.2⟩
theorem PI.fop {σ : RS} {E : List Nat} {s : SS} {k j : Int} (h : PI σ E s k j) (sort t p : Int32) (hk : k + 2 ≤ 20) (hd : gI σ 17 < 20) (hs : 0 ≤ sort ∧ sort ≤ 11) (ht : 0 ≤ t ∧ t < gI σ 49) (hp : ¬ sort = 0 → 0 ≤ p ∧ p < gI σ 18) : PI (fo σ sort t p) E s (k + 2) j := h.opn (σ' := fo σ sort t p) sort t p hk hd hs ht hp
theorem th51 {σ : RS} {sort t : Int32} : aI (th σ sort t) 51 (nT (gI σ 49)) = gI σ 18 := by
  have e : aI (th σ sort t) 51 = upd (aI σ 51) (nT (gI σ 49)) (gI σ 18) := rfl
  rw [e, upd_eq]
theorem th51a {σ : RS} {sort t : Int32} : aI (th σ sort t) 51 (nT (gI σ 49)) = gI (th σ sort t) 18 := th51
theorem s14a {σ : RS} {v : Int32} : aI (sI σ 14 v) 51 = aI σ 51 := rfl
theorem s14g {σ : RS} {v : Int32} : gI (sI σ 14 v) 18 = gI σ 18 := rfl
theorem th51b {σ : RS} {sort t v : Int32} : aI (sI (th σ sort t) 14 v) 51 (nT (gI σ 49)) = gI (sI (th σ sort t) 14 v) 18 := by
  rw [s14a, s14g]
  exact th51a
theorem th50 {σ : RS} {sort t : Int32} : aI (th σ sort t) 50 (nT (gI σ 49)) = sort := by
  have e : aI (th σ sort t) 50 = upd (aI σ 50) (nT (gI σ 49)) sort := rfl
  rw [e, upd_eq]
theorem nl_Fs {s t p : Nat → Int32} (n : Nat) : nl (Fs s t p n) ≤ n := by
  induction n with
  | zero => exact Nat.le_refl _
  | succ n ih =>
    show nl (fit (s n) (t n) (p n) ++ Fs s t p n) ≤ n + 1
    unfold fit
    split <;> simp [nl] <;> omega
theorem PI.nf {σ : RS} {E : List Nat} {s : SS} {k j : Int} (h : PI σ E s k j) (q : Nat) : nl ((20, q) :: FF σ) ≤ 39 := by
  have h1 := nl_Fs (s := aI σ 63) (t := aI σ 64) (p := aI σ 65) (nT (gI σ 62))
  have h2 := h.1.2.2.1
  have h3 := t_nT h.nums.2.2.2.2.2.1.1
  show 0 + nl (FF σ) ≤ 39
  unfold FF
  omega
theorem PI.thg {σ : RS} {s : SS} {k j : Int} (h : PI σ [] s k j) (sort t : Int32) (hj : 1 ≤ j) (hs : 0 ≤ sort ∧ sort ≤ 11) (ht : 0 ≤ t ∧ t ≤ 500) : PI (th σ sort t) [] s k (j - 1) ∧ Fr (th σ sort t) (gI σ 49) := h.thing (σ' := th σ sort t) sort t hj hs ht
theorem lt_nT {x y : Int32} (hx : 0 ≤ x) (hy : 0 ≤ y) (h : nT x < nT y) : x < y := by
  have h1 := t_nT hx
  have h2 := t_nT hy
  exact t_lt (by omega)
theorem aI_em37 {σ : RS} {o a t : Int32} : aI (em σ o a t) 37 = aI σ 37 := rfl
theorem aI_em38 {σ : RS} {o a t : Int32} : aI (em σ o a t) 38 = aI σ 38 := rfl
theorem aI_em39 {σ : RS} {o a t : Int32} : aI (em σ o a t) 39 = aI σ 39 := rfl
theorem aI_em40 {σ : RS} {o a t : Int32} : aI (em σ o a t) 40 = aI σ 40 := rfl
theorem aI_em41 {σ : RS} {o a t : Int32} : aI (em σ o a t) 41 = aI σ 41 := rfl
theorem aI_em43 {σ : RS} {o a t : Int32} : aI (em σ o a t) 43 = aI σ 43 := rfl
theorem aI_em44 {σ : RS} {o a t : Int32} : aI (em σ o a t) 44 = aI σ 44 := rfl
theorem aI_em45 {σ : RS} {o a t : Int32} : aI (em σ o a t) 45 = aI σ 45 := rfl
theorem aI_em46 {σ : RS} {o a t : Int32} : aI (em σ o a t) 46 = aI σ 46 := rfl
theorem aI_em47 {σ : RS} {o a t : Int32} : aI (em σ o a t) 47 = aI σ 47 := rfl
theorem aI_em48 {σ : RS} {o a t : Int32} : aI (em σ o a t) 48 = aI σ 48 := rfl
theorem aI_em50 {σ : RS} {o a t : Int32} : aI (em σ o a t) 50 = aI σ 50 := rfl
theorem aI_em51 {σ : RS} {o a t : Int32} : aI (em σ o a t) 51 = aI σ 51 := rfl
theorem aI_em52 {σ : RS} {o a t : Int32} : aI (em σ o a t) 52 = aI σ 52 := rfl
theorem aI_em53 {σ : RS} {o a t : Int32} : aI (em σ o a t) 53 = aI σ 53 := rfl
theorem aI_em54 {σ : RS} {o a t : Int32} : aI (em σ o a t) 54 = aI σ 54 := rfl
theorem aI_em55 {σ : RS} {o a t : Int32} : aI (em σ o a t) 55 = aI σ 55 := rfl
theorem aI_em56 {σ : RS} {o a t : Int32} : aI (em σ o a t) 56 = aI σ 56 := rfl
theorem aI_em57 {σ : RS} {o a t : Int32} : aI (em σ o a t) 57 = aI σ 57 := rfl
theorem aI_em58 {σ : RS} {o a t : Int32} : aI (em σ o a t) 58 = aI σ 58 := rfl
theorem aI_em59 {σ : RS} {o a t : Int32} : aI (em σ o a t) 59 = aI σ 59 := rfl
theorem aI_em60 {σ : RS} {o a t : Int32} : aI (em σ o a t) 60 = aI σ 60 := rfl
theorem aI_em61 {σ : RS} {o a t : Int32} : aI (em σ o a t) 61 = aI σ 61 := rfl
theorem aI_em63 {σ : RS} {o a t : Int32} : aI (em σ o a t) 63 = aI σ 63 := rfl
theorem aI_em64 {σ : RS} {o a t : Int32} : aI (em σ o a t) 64 = aI σ 64 := rfl
theorem aI_em65 {σ : RS} {o a t : Int32} : aI (em σ o a t) 65 = aI σ 65 := rfl
/-- a frame less, and the room that it held -/
theorem PI.pk {σ : RS} {E : List Nat} {s : SS} {k j : Int} (h : PI σ E s k j) (hp : 0 < gI σ 62) : (gI σ 18).toInt + 2 * (gI σ 62 - 1).toInt ≤ 6 * (gI σ 14).toInt + (k - 2) := by
  have hz := h.numz
  have u62 : (gI σ 62 - 1).toInt = (gI σ 62).toInt - 1 := t_sub1 (by omega)
  have := h.1.2.1.2.1
  omega
theorem PI.popk {σ : RS} {E : List Nat} {s : SS} {k j : Int} (h : PI σ E s k j) (hp : 0 < gI σ 62) : PI (sI (sI σ 17 (gI σ 17 - 1)) 62 (gI σ 62 - 1)) E s (k - 2) j := by
  have b := h.popf (σ' := sI (sI σ 17 (gI σ 17 - 1)) 62 (gI σ 62 - 1)) hp
  exact b.kk (k - 2) ⟨by have := h.1.2.1.2.2; omega, h.pk hp⟩
theorem PI.popl {σ : RS} {E : List Nat} {s : SS} {k j : Int} (h : PI σ E s k j) (hp : 0 < gI σ 62) : PI (sI (sI σ 62 (gI σ 62 - 1)) 17 (gI σ 17 - 1)) E s (k - 2) j := by
  have b := h.popf (σ' := sI (sI σ 62 (gI σ 62 - 1)) 17 (gI σ 17 - 1)) hp
  exact b.kk (k - 2) ⟨by have := h.1.2.1.2.2; omega, h.pk hp⟩
theorem PI.ktok {σ : RS} {E : List Nat} {s : SS} {k j : Int} (h : PI σ E s k j) {K : Int32} (h0 : 0 ≤ K) (h1 : K < gI σ 49) : 0 ≤ aI σ 60 (nT K) ∧ aI σ 60 (nT K) ≤ 500 := (h.2.2.2.2.1.2 (nT K) (nT_lt h0 h1)).2.1
theorem PI.ctok {σ : RS} {E : List Nat} {s : SS} {k j : Int} (h : PI σ E s k j) {c : Int32} (h0 : 0 ≤ c) (h1 : c < gI σ 18) : 0 ≤ aI σ 22 (nT c) ∧ aI σ 22 (nT c) ≤ 500 := (h.2.2.2.1 (nT c) (nT_lt h0 h1)).2.1
theorem PI.s48 {σ : RS} {E : List Nat} {s : SS} {k j : Int} (h : PI σ E s k j) (f : Nat → Int32) : PI (sA σ 48 f) E s k j :=
  h.mv (σ' := sA σ 48 f) k j ⟨Int.le_refl _, h.1.1.2⟩ ⟨h.1.2.1.2.2, by show k ≤ k + 6 * ((gI σ 14).toInt - (gI σ 14).toInt); omega⟩ ⟨h.1.2.2.2.2.2.2, by show j ≤ j + ((gI σ 14).toInt - (gI σ 14).toInt); omega⟩ True.intro
/-- the top frame -/
theorem PI.top {σ : RS} {E : List Nat} {s : SS} {k j : Int} (h : PI σ E s k j) (hp : 0 < gI σ 62) : (0 ≤ aI σ 63 (nT (gI σ 62 - 1)) ∧ aI σ 63 (nT (gI σ 62 - 1)) ≤ 11) ∧ (0 ≤ aI σ 64 (nT (gI σ 62 - 1)) ∧ aI σ 64 (nT (gI σ 62 - 1)) < gI σ 49) ∧ (¬ aI σ 63 (nT (gI σ 62 - 1)) = 0 → 0 ≤ aI σ 65 (nT (gI σ 62 - 1)) ∧ aI σ 65 (nT (gI σ 62 - 1)) < gI σ 18) := by
  have hN := nT_sub hp
  exact h.2.2.2.2.2.2.1.2 (nT (gI σ 62 - 1)) (by omega)
def els (σ : RS) : RS := sA σ 63 (upd (aI σ 63) (nT (gI σ 62 - 1)) 3)
theorem PI.elsx {σ σ' : RS} {E : List Nat} {s : SS} {k j : Int} (h : PI σ E s k j) (hp : 0 < gI σ 62) (hs : ¬ aI σ 63 (nT (gI σ 62 - 1)) = 0) (f14 : gI σ' 14 = gI σ 14 := by rfl) (f17 : gI σ' 17 = gI σ 17 := by rfl) (f32 : gI σ' 32 = gI σ 32 := by rfl) (f49 : gI σ' 49 = gI σ 49 := by rfl) (f62 : gI σ' 62 = gI σ 62 := by rfl) (f42 : gI σ' 42 = gI σ 42 := by rfl) (f36 : gI σ' 36 = gI σ 36 := by rfl) (e63 : aI σ' 63 = upd (aI σ 63) (nT (gI σ 62 - 1)) 3 := by rfl) (f64 : aI σ' 64 = aI σ 64 := by rfl) (f65 : aI σ' 65 = aI σ 65 := by rfl) (f43 : aI σ' 43 = aI σ 43 := by rfl) (f37 : aI σ' 37 = aI σ 37 := by rfl) (f39 : aI σ' 39 = aI σ 39 := by rfl) (f40 : aI σ' 40 = aI σ 40 := by rfl) (f41 : aI σ' 41 = aI σ 41 := by rfl) (e18 : gI σ' 18 = gI σ 18 := by rfl) (e19 : aI σ' 19 = aI σ 19 := by rfl) (e20 : aI σ' 20 = aI σ 20 := by rfl) (e21 : aI σ' 21 = aI σ 21 := by rfl) (e22 : aI σ' 22 = aI σ 22 := by rfl) (e23 : aI σ' 23 = aI σ 23 := by rfl) (e24 : aI σ' 24 = aI σ 24 := by rfl) (f50 : aI σ' 50 = aI σ 50 := by rfl) (f51 : aI σ' 51 = aI σ 51 := by rfl) (f52 : aI σ' 52 = aI σ 52 := by rfl) (f53 : aI σ' 53 = aI σ 53 := by rfl) (f54 : aI σ' 54 = aI σ 54 := by rfl) (f55 : aI σ' 55 = aI σ 55 := by rfl) (f56 : aI σ' 56 = aI σ 56 := by rfl) (f57 : aI σ' 57 = aI σ 57 := by rfl) (f58 : aI σ' 58 = aI σ 58 := by rfl) (f59 : aI σ' 59 = aI σ 59 := by rfl) (f60 : aI σ' 60 = aI σ 60 := by rfl) (f61 : aI σ' 61 = aI σ 61 := by rfl) (f3 : aI σ' 3 = aI σ 3 := by rfl) (f6 : aI σ' 6 = aI σ 6 := by rfl) (hgz : GZ σ → GZ σ' := by exact fun h => h) : PI σ' E s k j := by
  have htop := h.top hp
  have hz := h.numz
  have hn := h.nums
  obtain ⟨⟨h1, h2, h3, h4, h5⟩, hE, hS, hC, hT, hU, hF, hV, hM, hZ, hJ⟩ := h
  have hks : ∀ r, 50 ≤ r → r ≤ 61 → aI σ' r = aI σ r := by
    intro r a b
    have h9 : r = 50 ∨ r = 51 ∨ r = 52 ∨ r = 53 ∨ r = 54 ∨ r = 55 ∨ r = 56 ∨ r = 57 ∨ r = 58 ∨ r = 59 ∨ r = 60 ∨ r = 61 := by omega
    rcases h9 with rfl | rfl | rfl | rfl | rfl | rfl | rfl | rfl | rfl | rfl | rfl | rfl <;> assumption
  have hksl : ∀ n, ksl n = 0 ∨ (52 ≤ ksl n ∧ ksl n ≤ 58) := by
    intro n
    unfold ksl
    split <;> simp
  refine ⟨⟨by rw [f14]; exact h1, by rw [e18, f62, f14]; exact h2, by rw [f17, f62]; exact h3, ⟨by unfold AG; rw [e18, e19, e22]; exact h4.1, hgz h4.2⟩, by rw [f49, f14, e18, e19]; exact h5⟩, by rw [e18, e19, e20, e21]; exact hE, by rw [e18, e19, e20]; exact hS, ?_, ?_, ?_, ?_, ?_, ?_, ?_⟩
  · intro c hc
    rw [e18] at hc
    rw [e19, e20, e22, e23, e24, f49]
    obtain ⟨z1, z2, z3, z4, z5, z6, z7, z8, z9, za, zb, zc⟩ := hC c hc
    refine ⟨z1, z2, z3, z4, z5, z6, z7, z8, fun hk => ?_, by rw [f6]; exact za, by rw [f6, f3]; exact zb, by unfold tz; rw [hks 51 (by omega) (by omega), hks 50 (by omega) (by omega)]; exact zc⟩
    rcases hksl (nT (aI σ 19 c)) with z | z
    · exact absurd z hk
    · rw [hks _ (by omega) (by omega)]; exact z9 hk
  · unfold TI
    rw [f49, e18, e19, e20, e21, hks 51 (by omega) (by omega), hks 60 (by omega) (by omega), hks 61 (by omega) (by omega), hks 57 (by omega) (by omega), hks 50 (by omega) (by omega), hks 59 (by omega) (by omega)]
    exact ⟨fun r a b => by rw [hks r (by omega) (by omega)]; exact hT.1 r a b, hT.2⟩
  · unfold UP; rw [e18, e19, e20]; exact hU
  · refine ⟨by rw [f62]; exact hF.1, fun i hi => ?_⟩
    rw [f62] at hi
    rw [e63, f64, f65, f49, e18]
    by_cases z : i = nT (gI σ 62 - 1)
    · subst z
      rw [upd_eq]
      exact ⟨by decide, htop.2.1, fun _ => htop.2.2 hs⟩
    · rw [upd_ne z]
      exact hF.2 i hi
  · unfold VT; rw [f42, f43]; exact hV
  · unfold MT; rw [f36, f37, f39, f40, f41, f42, e18, e19, e20, e21]; exact hM
  · unfold ZB; rw [e18, e19, e20, e21, f14]; exact ⟨hZ, hJ⟩
theorem PI.elz {σ : RS} {E : List Nat} {s : SS} {k j : Int} (h : PI σ E s k j) (hp : 0 < gI σ 62) (hs : ¬ aI σ 63 (nT (gI σ 62 - 1)) = 0) : PI (els σ) E s k j := h.elsx (σ' := sA σ 63 (upd (aI σ 63) (nT (gI σ 62 - 1)) 3)) hp hs
theorem FF_els {σ : RS} (h : 0 < gI σ 62) : FF (els σ) = fit 3 (aI σ 64 (nT (gI σ 62 - 1))) (aI σ 65 (nT (gI σ 62 - 1))) ++ Fs (aI σ 63) (aI σ 64) (aI σ 65) (nT (gI σ 62 - 1)) := by
  have e := FF_pop (σ := els σ) h
  rw [e]
  have e1 : aI (els σ) 63 = upd (aI σ 63) (nT (gI σ 62 - 1)) 3 := rfl
  have e2 : aI (els σ) 64 = aI σ 64 := rfl
  have e3 : aI (els σ) 65 = aI σ 65 := rfl
  have e4 : gI (els σ) 62 = gI σ 62 := rfl
  rw [e1, e2, e3, e4, upd_eq, Fs_congr (s := aI σ 63) (t := aI σ 64) (p := aI σ 65) (fun i hi => ⟨upd_ne (by omega), rfl, rfl⟩)]
theorem MF.elz {σ : RS} (h : MF σ) (hs : ¬ aI σ 63 (nT (gI σ 62 - 1)) = 0) : MF (els σ) := by
  have hq := h.nz hs
  have hp := h.2.2.1
  refine ⟨h.1, fun i hi hz => ?_, h.2.2.1, ?_⟩
  rotate_left
  · show upd (aI σ 63) (nT (gI σ 62 - 1)) 3 0 = 0
    have hw : 0 < nT (gI σ 62 - 1) := by
      have := nT_lt (x := 0) (y := gI σ 62 - 1) (by decide) (by lia)
      omega
    rw [upd_ne (by omega)]
    exact h.2.2.2
  have hz : upd (aI σ 63) (nT (gI σ 62 - 1)) 3 i = 0 := hz
  by_cases q : i = nT (gI σ 62 - 1)
  · subst q
    rw [upd_eq] at hz
    exact absurd hz (by decide)
  · rw [upd_ne q] at hz
    exact h.2.1 i hi hz
