theorem PI.s61x {σ σ' : RS} {E : List Nat} {s : SS} {k j : Int} (h : PI σ E s k j) (K v : Int32) (hv : 0 ≤ v ∧ v < 60) (f14 : gI σ' 14 = gI σ 14 := by rfl) (f17 : gI σ' 17 = gI σ 17 := by rfl) (f32 : gI σ' 32 = gI σ 32 := by rfl) (f49 : gI σ' 49 = gI σ 49 := by rfl) (f62 : gI σ' 62 = gI σ 62 := by rfl) (f42 : gI σ' 42 = gI σ 42 := by rfl) (f36 : gI σ' 36 = gI σ 36 := by rfl) (f63 : aI σ' 63 = aI σ 63 := by rfl) (f64 : aI σ' 64 = aI σ 64 := by rfl) (f65 : aI σ' 65 = aI σ 65 := by rfl) (f43 : aI σ' 43 = aI σ 43 := by rfl) (f37 : aI σ' 37 = aI σ 37 := by rfl) (f39 : aI σ' 39 = aI σ 39 := by rfl) (f40 : aI σ' 40 = aI σ 40 := by rfl) (f41 : aI σ' 41 = aI σ 41 := by rfl) (e18 : gI σ' 18 = gI σ 18 := by rfl) (e19 : aI σ' 19 = aI σ 19 := by rfl) (e20 : aI σ' 20 = aI σ 20 := by rfl) (e21 : aI σ' 21 = aI σ 21 := by rfl) (e22 : aI σ' 22 = aI σ 22 := by rfl) (e23 : aI σ' 23 = aI σ 23 := by rfl) (e24 : aI σ' 24 = aI σ 24 := by rfl) (f50 : aI σ' 50 = aI σ 50 := by rfl) (f51 : aI σ' 51 = aI σ 51 := by rfl) (f52 : aI σ' 52 = aI σ 52 := by rfl) (f53 : aI σ' 53 = aI σ 53 := by rfl) (f54 : aI σ' 54 = aI σ 54 := by rfl) (f55 : aI σ' 55 = aI σ 55 := by rfl) (f56 : aI σ' 56 = aI σ 56 := by rfl) (f57 : aI σ' 57 = aI σ 57 := by rfl) (f58 : aI σ' 58 = aI σ 58 := by rfl) (f59 : aI σ' 59 = aI σ 59 := by rfl) (f60 : aI σ' 60 = aI σ 60 := by rfl) (f3 : aI σ' 3 = aI σ 3 := by rfl) (f6 : aI σ' 6 = aI σ 6 := by rfl) (g61 : aI σ' 61 = upd (aI σ 61) (nT K) v := by rfl) (hgz : GZ σ → GZ σ' := by exact fun h => h) : PI σ' E s k j := by
  have hz := h.numz
  have hn := h.nums
  obtain ⟨⟨h1, h2, h3, h4, h5⟩, hE, hS, hC, hT, hU, hF, hV, hM, hZ, hJ⟩ := h
  have hks : ∀ r, 50 ≤ r → r ≤ 60 → aI σ' r = aI σ r := by
    intro r a b
    have h9 : r = 50 ∨ r = 51 ∨ r = 52 ∨ r = 53 ∨ r = 54 ∨ r = 55 ∨ r = 56 ∨ r = 57 ∨ r = 58 ∨ r = 59 ∨ r = 60 := by omega
    rcases h9 with rfl | rfl | rfl | rfl | rfl | rfl | rfl | rfl | rfl | rfl | rfl <;> assumption
  have hksl : ∀ n, ksl n = 0 ∨ (52 ≤ ksl n ∧ ksl n ≤ 58) := by
    intro n
    unfold ksl
    split <;> simp
  refine ⟨⟨by rw [f14]; exact h1, by rw [e18, f62, f14]; exact h2, by rw [f17, f62]; exact h3, ⟨by unfold AG; rw [e18, e19, e22]; exact h4.1, hgz h4.2⟩, by rw [f49, f14, e18, e19]; exact h5⟩, by rw [e18, e19, e20, e21]; exact hE, by rw [e18, e19, e20]; exact hS, ?_, ?_, ?_, ?_, ?_, ?_, ?_⟩
  · intro c hc
    rw [e18] at hc
    rw [e19, e20, e22, e23, e24, f49]
    obtain ⟨z1, z2, z3, z4, z5, z6, z7, z8, z9, za, zb, zc⟩ := hC c hc
    refine ⟨z1, z2, z3, z4, z5, z6, z7, z8, fun hk => ?_, by rw [f6]; exact za, by rw [f6, f3]; exact zb, by unfold tz; rw [hks 51 (by omega) (by omega), hks 50 (by omega) (by omega)]; exact zc⟩
    rcases hksl (nT (aI σ 19 c)) with z | z
    · exact absurd z hk
    · rw [hks _ (by omega) (by omega)]; exact z9 hk
  · unfold TI
    rw [f49, e18, e19, e20, e21, hks 51 (by omega) (by omega), hks 60 (by omega) (by omega), hks 57 (by omega) (by omega), hks 50 (by omega) (by omega), hks 59 (by omega) (by omega), g61]
    refine ⟨fun r a b => by rw [hks r (by omega) (by omega)]; exact hT.1 r a b, fun q hq => ?_⟩
    obtain ⟨y1, y2, y3, y4, y5, y6⟩ := hT.2 q hq
    by_cases z : q = nT K
    · subst z
      rw [upd_eq]
      exact ⟨y1, y2, Or.inr hv, fun _ => hv.1, y5, y6⟩
    · rw [upd_ne z]
      exact ⟨y1, y2, y3, y4, y5, y6⟩
  · unfold UP; rw [e18, e19, e20]; exact hU
  · unfold FI; rw [f62, f63, f64, f65, f49, e18]; exact hF
  · unfold VT; rw [f42, f43]; exact hV
  · unfold MT; rw [f36, f37, f39, f40, f41, f42, e18, e19, e20, e21]; exact hM
  · unfold ZB; rw [e18, e19, e20, e21, f14]; exact ⟨hZ, hJ⟩
theorem PI.s61 {σ : RS} {E : List Nat} {s : SS} {k j : Int} (h : PI σ E s k j) (K v : Int32) (hv : 0 ≤ v ∧ v < 60) : PI (sA σ 61 (upd (aI σ 61) (nT K) v)) E s k j := h.s61x (σ' := sA σ 61 (upd (aI σ 61) (nT K) v)) K v hv
theorem sA_cm {σ : RS} {k l : Nat} {f g : Nat → Int32} (hkl : k ≠ l) : sA (sA σ k f) l g = sA (sA σ l g) k f := Prod.ext rfl (Prod.ext rfl (Prod.ext (funext fun j => by
  by_cases h : j = k
  · subst h; simp [sA, nb_eq, nb_ne hkl]
  · by_cases h2 : j = l
    · subst h2; simp [sA, nb_eq, nb_ne h]
    · simp [sA, nb_ne h, nb_ne h2]) rfl))
theorem sA_sIc {σ : RS} {k l : Nat} {v : Int32} {g : Nat → Int32} : sA (sI σ k v) l g = sI (sA σ l g) k v := rfl
theorem em_sA {σ : RS} {o a t : Int32} {g : Nat → Int32} : sA (em σ o a t) 61 g = em (sA σ 61 g) o a t := by
  unfold em
  rw [sA_cm (k := 24) (l := 61) (by omega), sA_cm (k := 23) (l := 61) (by omega), sA_cm (k := 22) (l := 61) (by omega), sA_cm (k := 21) (l := 61) (by omega), sA_cm (k := 20) (l := 61) (by omega), sA_cm (k := 19) (l := 61) (by omega), sA_sIc]
  rfl
def ctA (X : RS) (K : Int32) : RS := sA (sI (sI (sA (em X 51 K (gI X 14)) 57 (upd (aI X 57) (nT K) (gI X 18))) 14 (gI X 14 + 1)) 14 (gI X 14 + 1 + 1)) 61 (upd (aI X 61) (nT K) (gI X 42))
theorem ctA_eq {X : RS} {K : Int32} : ctA X K = sI (sI (sA (em (sA X 61 (upd (aI X 61) (nT K) (gI X 42))) 51 K (gI X 14)) 57 (upd (aI X 57) (nT K) (gI X 18))) 14 (gI X 14 + 1)) 14 (gI X 14 + 1 + 1) := by
  unfold ctA
  rw [sA_sIc, sA_sIc, sA_cm (k := 57) (l := 61) (by omega), em_sA]
theorem PI.ct {X : RS} {K : Int32} {r : List (Nat × Nat)} {mn : Nat} {k j : Int} (h : PI X [] ((50, nT K) :: r, mn) k j) (hk : k ≤ 12) (hK : 0 ≤ K ∧ K < gI X 49) (hp : gI X 14 < 500) (hp1 : gI X 14 + 1 < 500) (hp2 : gI X 14 + 1 + 1 < 500) (hv : gI X 42 < 60) (ty fx m q : Int32) (hty : 0 ≤ ty ∧ ty ≤ 4) : PI (va (ctA X K) ty fx m q) [] ((51, nT K) :: r, mn) (k - 16) (j + 2) := by
  have hj0 := h.1.2.2.2.2.2.2
  have nn := h.nums
  have b0 := h.s61 K (gI X 42) ⟨nn.2.2.2.2.2.2.1.1, hv⟩
  have b1 := b0.cemsg 51 K (gI X 14) 57 (by decide) nn.1 rfl ⟨by decide, by decide, fun _ => by rw [aI_eq, upd_eq]; exact nn.2.2.2.2.2.2.1.1⟩ rfl hK (fun q => absurd q (by decide)) (fun q => absurd q (by decide)) (fun q => absurd q (by decide)) (fun q => by cases q) rfl (s' := ((51, nT K) :: r, mn)) (by show (if (50, nT K) = (50, nT K) then some ((51, nT K) :: r, mn) else none) = _; rw [if_pos rfl]) (by omega) j (OX.pl (by decide) hj0)
  have b2 := b1.take hp rfl (k - 5) (j + 1) ⟨by omega, by omega⟩ ⟨by omega, by omega⟩
  have b3 := b2.take hp1 rfl (k - 10) (j + 2) ⟨by omega, by omega⟩ ⟨by omega, by omega⟩
  have b4 : PI (ctA X K) [] ((51, nT K) :: r, mn) (k - 10) (j + 2) := by
    rw [ctA_eq]
    exact b3
  exact b4.vari ty fx m q hv hp2 hty (k - 16) ⟨by omega, by omega⟩
theorem FF_ct {X : RS} {K ty fx m q : Int32} : FF (va (ctA X K) ty fx m q) = FF X := by
  have e1 : FF (va (ctA X K) ty fx m q) = FF (ctA X K) := FF_of rfl rfl rfl rfl
  rw [e1]
  unfold ctA
  rw [FF_sA (k := 61) (by omega), FF_sI (k := 14) (by omega), FF_sI (k := 14) (by omega), FF_sA (k := 57) (by omega), FF_em]
def pS (σ : RS) : RS := sI (sI σ 62 (gI σ 62 - 1)) 17 (gI σ 17 - 1)
theorem FF_pS {σ : RS} : FF (pS σ) = (Fs (aI σ 63) (aI σ 64) (aI σ 65) (nT (gI σ 62 - 1))) := rfl
def tq (so : Int32) : Nat := if so = 9 then 50 else if so = 10 then 51 else 52
theorem tq9 : tq 9 = 50 := rfl
theorem tq10 : tq 10 = 51 := rfl
theorem tq11 : tq 11 = 52 := rfl
theorem PI.ps {σ : RS} {so K p : Int32} {mn : Nat} {k j : Int} (h : PI σ [] (FF σ, mn) k j) (hop : 0 < gI σ 62) (hxs : (aI σ 63 (nT (gI σ 62 - 1))) = so) (h9 : so = 9 ∨ so = 10 ∨ so = 11) (hK : (aI σ 64 (nT (gI σ 62 - 1))) = K) (hp : (aI σ 65 (nT (gI σ 62 - 1))) = p) : PI (pS σ) [] ((tq so, nT K) :: (20, nT p) :: FF (pS σ), mn) (k - 2) j := by
  have e : FF σ = (tq so, nT K) :: (20, nT p) :: FF (pS σ) := by
    rw [FF_pop hop, hxs, hK, hp, FF_pS]
    rcases h9 with rfl | rfl | rfl <;> rfl
  rw [e] at h
  exact h.popl hop
theorem PI.fnx {X : RS} {K t : Int32} {so : Int32} {r : List (Nat × Nat)} {mn : Nat} {k j : Int} (h : PI X [] ((tq so, nT K) :: r, mn) k j) (h9 : so = 9 ∨ so = 10) (hk : k ≤ 18) (hK : 0 ≤ K ∧ K < gI X 49) (ht : 0 ≤ t ∧ t ≤ 500) : PI (sA (em X 52 K t) 58 (upd (aI X 58) (nT K) (gI X 18))) [] ((52, nT K) :: r, mn) (k + 1) j := by
  rcases h9 with rfl | rfl
  · rw [tq9] at h
    exact h.cems 52 K t 58 (by decide) ht rfl (by decide) rfl hK (fun q => absurd q (by decide)) (fun q => absurd q (by decide)) (fun q => absurd q (by decide)) (fun q => by cases q) rfl (if_pos (Or.inl rfl)) (by omega)
  · rw [tq10] at h
    exact h.cems 52 K t 58 (by decide) ht rfl (by decide) rfl hK (fun q => absurd q (by decide)) (fun q => absurd q (by decide)) (fun q => absurd q (by decide)) (fun q => by cases q) rfl (if_pos (Or.inr rfl)) (by omega)
theorem PI.trx {X : RS} {K t : Int32} {so : Int32} {r : List (Nat × Nat)} {mn : Nat} {k j : Int} (h : PI X [] ((tq so, nT K) :: r, mn) k j) (h9 : so = 10 ∨ so = 11) (hk : k ≤ 18) (hK : 0 ≤ K ∧ K < gI X 49) (ht : 0 ≤ t ∧ t ≤ 500) : PI (sA (em X 53 K t) 55 (upd (aI X 55) (nT K) (gI X 18))) [] (r, mn) (k + 1) j := by
  rcases h9 with rfl | rfl
  · rw [tq10] at h
    exact h.cems 53 K t 55 (by decide) ht rfl (by decide) rfl hK (fun q => absurd q (by decide)) (fun q => absurd q (by decide)) (fun q => absurd q (by decide)) (fun q => by cases q) rfl (if_pos (Or.inl rfl)) (by omega)
  · rw [tq11] at h
    exact h.cems 53 K t 55 (by decide) ht rfl (by decide) rfl hK (fun q => absurd q (by decide)) (fun q => absurd q (by decide)) (fun q => absurd q (by decide)) (fun q => by cases q) rfl (if_pos (Or.inr rfl)) (by omega)
def tX (X : RS) (K p t : Int32) : RS := em (sA (em X 53 K t) 55 (upd (aI X 55) (nT K) (gI X 18))) 45 p (upd (aI X 22) (nT (gI X 18)) t (nT p))
theorem PI.tx {X : RS} {K p t : Int32} {so : Int32} {mn : Nat} {k j : Int} (h : PI X [] ((tq so, nT K) :: (20, nT p) :: FF X, mn) k j) (h9 : so = 10 ∨ so = 11) (hk : k ≤ 16) (hK : 0 ≤ K ∧ K < gI X 49) (ht : 0 ≤ t ∧ t ≤ 500) : PI (tX X K p t) [] (FF (tX X K p t), mn) (k + 2) j := by
  have hj0 := h.1.2.2.2.2.2.2
  have b1 := h.trx h9 (by omega) hK ht
  have b2 := (b1.tokA (by omega) (c := nT p) (by simp)).2
  rw [aI_em22] at b2
  have b3 := b1.ends (a := p) (upd (aI X 22) (nT (gI X 18)) t (nT p)) b2 (by omega)
  unfold tX
  rw [FF_em, FF_sA (k := 55) (by omega), FF_em]
  exact b3.wk (k + 2) j ⟨by omega, by omega⟩ ⟨by omega, by omega⟩
def cX (X : RS) (K p ty fx m q a b : Int32) : RS := fo (sI (sI (va (ctA X K) ty fx m q) 14 a) 14 b) 10 K p
theorem PI.cx {X : RS} {K p : Int32} {mn : Nat} {k j : Int} (h : PI X [] ((50, nT K) :: (20, nT p) :: FF X, mn) k j) (hk : k ≤ 12) (hK : 0 ≤ K ∧ K < gI X 49) (hpp : 0 ≤ p ∧ p < gI X 18) (hp : gI X 14 < 500) (hp1 : gI X 14 + 1 < 500) (hp2 : gI X 14 + 1 + 1 < 500) (hp3 : gI X 14 + 1 + 1 + 1 < 500) (hp4 : gI X 14 + 1 + 1 + 1 + 1 < 500) (hd : gI X 17 < 20) (hv : gI X 42 < 60) (ty fx m q : Int32) (hty : 0 ≤ ty ∧ ty ≤ 4) : PI (cX X K p ty fx m q (gI X 14 + 1 + 1 + 1 + 1) (gI X 14 + 1 + 1 + 1 + 1 + 1)) [] (FF (cX X K p ty fx m q (gI X 14 + 1 + 1 + 1 + 1) (gI X 14 + 1 + 1 + 1 + 1 + 1)), mn) k j := by
  have hj0 := h.1.2.2.2.2.2.2
  have nn := h.nums
  have b1 := h.ct hk hK hp hp1 hp2 hv ty fx m q hty
  have b2 := b1.take (by exact hp3) rfl (k - 16) (j + 2) ⟨by omega, by omega⟩ ⟨by omega, by omega⟩
  have b3 := b2.take (by exact hp4) rfl (k - 16) (j + 2) ⟨by omega, by omega⟩ ⟨by omega, by omega⟩
  have b4 := b3.fop 10 K p (by omega) (by exact hd) (by decide) (by exact hK) (fun _ => ⟨hpp.1, by show p < gI X 18 + 1; lia⟩)
  unfold cX
  rw [FF_fo, FF_sI (k := 14) (by omega), FF_sI (k := 14) (by omega), FF_ct, fit10]
  rotate_left
  · exact nn.2.2.2.2.2.1
  exact b4.wk k j ⟨by omega, by omega⟩ ⟨by omega, by omega⟩
def fX2 (X : RS) (K p a b : Int32) : RS := fo (sI (sI (sA (em X 52 K (gI X 14)) 58 (upd (aI X 58) (nT K) (gI X 18))) 14 a) 14 b) 11 K p
theorem PI.fx2x {X : RS} {K p so : Int32} {mn : Nat} {k j : Int} (h : PI X [] ((tq so, nT K) :: (20, nT p) :: FF X, mn) k j) (h9 : so = 9 ∨ so = 10) (hk : k ≤ 12) (hK : 0 ≤ K ∧ K < gI X 49) (hpp : 0 ≤ p ∧ p < gI X 18) (hp : gI X 14 < 500) (hp1 : gI X 14 + 1 < 500) (hd : gI X 17 < 20) : PI (fX2 X K p (gI X 14 + 1) (gI X 14 + 1 + 1)) [] (FF (fX2 X K p (gI X 14 + 1) (gI X 14 + 1 + 1)), mn) k j := by
  have hj0 := h.1.2.2.2.2.2.2
  have nn := h.nums
  have b1 := h.fnx h9 (by omega) hK nn.1
  have b2 := b1.take (by exact hp) rfl (k - 5) (j + 1) ⟨by omega, by omega⟩ ⟨by omega, by omega⟩
  have b3 := b2.take (by exact hp1) rfl (k - 5) (j + 1) ⟨by omega, by omega⟩ ⟨by omega, by omega⟩
  have b4 := b3.fop 11 K p (by omega) (by exact hd) (by decide) (by exact hK) (fun _ => ⟨hpp.1, by show p < gI X 18 + 1; lia⟩)
  unfold fX2
  rw [FF_fo, FF_sI (k := 14) (by omega), FF_sI (k := 14) (by omega), FF_sA (k := 58) (by omega), FF_em, fit11]
  rotate_left
  · exact nn.2.2.2.2.2.1
  exact b4.wk k j ⟨by omega, by omega⟩ ⟨by omega, by omega⟩

