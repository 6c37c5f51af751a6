/-! the class's reader: its leaves -/
theorem zg0 (σ : CsC) (a : Nat) : gtC σ a 0 = .inl (fIC σ a 0) := rfl
theorem zg1 (σ : CsC) (a : Nat) : gtC σ a 1 = .inr (.inr (fRC σ a 1)) := rfl
theorem zg2 (σ : CsC) (a : Nat) : gtC σ a 2 = .inl (fIC σ a 2) := rfl
theorem zg30 (σ : CsC) (a : Nat) : gtC σ a 30 = .inr (.inr (fRC σ a 30)) := rfl
theorem zg31 (σ : CsC) (a : Nat) : gtC σ a 31 = .inr (.inr (fRC σ a 31)) := rfl
theorem zg32 (σ : CsC) (a : Nat) : gtC σ a 32 = .inr (.inr (fRC σ a 32)) := rfl
theorem zg33 (σ : CsC) (a : Nat) : gtC σ a 33 = .inr (.inr (fRC σ a 33)) := rfl
theorem zg34 (σ : CsC) (a : Nat) : gtC σ a 34 = .inl (fIC σ a 34) := rfl
theorem zg35 (σ : CsC) (a : Nat) : gtC σ a 35 = .inr (.inr (fRC σ a 35)) := rfl
theorem zg36 (σ : CsC) (a : Nat) : gtC σ a 36 = .inr (.inr (fRC σ a 36)) := rfl
theorem zg60 (σ : CsC) (a : Nat) : gtC σ a 60 = .inl (fIC σ a 60) := rfl
theorem zg61 (σ : CsC) (a : Nat) : gtC σ a 61 = .inl (fIC σ a 61) := rfl
theorem zg62 (σ : CsC) (a : Nat) : gtC σ a 62 = .inl (fIC σ a 62) := rfl
theorem zg63 (σ : CsC) (a : Nat) : gtC σ a 63 = .inl (fIC σ a 63) := rfl
theorem zg64 (σ : CsC) (a : Nat) : gtC σ a 64 = .inl (fIC σ a 64) := rfl
theorem zg65 (σ : CsC) (a : Nat) : gtC σ a 65 = .inl (fIC σ a 65) := rfl
theorem zg66 (σ : CsC) (a : Nat) : gtC σ a 66 = .inl (fIC σ a 66) := rfl
theorem zg67 (σ : CsC) (a : Nat) : gtC σ a 67 = .inl (fIC σ a 67) := rfl
theorem zg68 (σ : CsC) (a : Nat) : gtC σ a 68 = .inl (fIC σ a 68) := rfl
theorem zg69 (σ : CsC) (a : Nat) : gtC σ a 69 = .inl (fIC σ a 69) := rfl
theorem zg70 (σ : CsC) (a : Nat) : gtC σ a 70 = .inl (fIC σ a 70) := rfl
theorem zg71 (σ : CsC) (a : Nat) : gtC σ a 71 = .inr (.inl (fLC σ a 71)) := rfl
theorem zg72 (σ : CsC) (a : Nat) : gtC σ a 72 = .inr (.inr (fRC σ a 72)) := rfl
theorem zg73 (σ : CsC) (a : Nat) : gtC σ a 73 = .inr (.inr (fRC σ a 73)) := rfl
theorem zg74 (σ : CsC) (a : Nat) : gtC σ a 74 = .inr (.inr (fRC σ a 74)) := rfl
theorem zg75 (σ : CsC) (a : Nat) : gtC σ a 75 = .inr (.inr (fRC σ a 75)) := rfl
theorem zg76 (σ : CsC) (a : Nat) : gtC σ a 76 = .inr (.inr (fRC σ a 76)) := rfl
theorem zg77 (σ : CsC) (a : Nat) : gtC σ a 77 = .inl (fIC σ a 77) := rfl
theorem zg90 (σ : CsC) (a : Nat) : gtC σ a 90 = .inr (.inr (fRC σ a 90)) := rfl
theorem zg91 (σ : CsC) (a : Nat) : gtC σ a 91 = .inr (.inl (fLC σ a 91)) := rfl
theorem zg92 (σ : CsC) (a : Nat) : gtC σ a 92 = .inr (.inl (fLC σ a 92)) := rfl
theorem zg93 (σ : CsC) (a : Nat) : gtC σ a 93 = .inr (.inr (fRC σ a 93)) := rfl
theorem zg94 (σ : CsC) (a : Nat) : gtC σ a 94 = .inl (fIC σ a 94) := rfl
theorem zg120 (σ : CsC) (a : Nat) : gtC σ a 120 = .inr (.inr (fRC σ a 120)) := rfl
theorem zg121 (σ : CsC) (a : Nat) : gtC σ a 121 = .inr (.inr (fRC σ a 121)) := rfl
theorem zg150 (σ : CsC) (a : Nat) : gtC σ a 150 = .inr (.inr (fRC σ a 150)) := rfl
theorem zg151 (σ : CsC) (a : Nat) : gtC σ a 151 = .inr (.inr (fRC σ a 151)) := rfl
theorem zg152 (σ : CsC) (a : Nat) : gtC σ a 152 = .inr (.inr (fRC σ a 152)) := rfl
theorem zg153 (σ : CsC) (a : Nat) : gtC σ a 153 = .inr (.inr (fRC σ a 153)) := rfl
theorem zg154 (σ : CsC) (a : Nat) : gtC σ a 154 = .inr (.inr (fRC σ a 154)) := rfl
theorem zg155 (σ : CsC) (a : Nat) : gtC σ a 155 = .inr (.inr (fRC σ a 155)) := rfl
theorem zg156 (σ : CsC) (a : Nat) : gtC σ a 156 = .inr (.inr (fRC σ a 156)) := rfl
theorem zg157 (σ : CsC) (a : Nat) : gtC σ a 157 = .inr (.inr (fRC σ a 157)) := rfl
theorem zg158 (σ : CsC) (a : Nat) : gtC σ a 158 = .inr (.inr (fRC σ a 158)) := rfl
theorem zg159 (σ : CsC) (a : Nat) : gtC σ a 159 = .inr (.inr (fRC σ a 159)) := rfl
theorem zg160 (σ : CsC) (a : Nat) : gtC σ a 160 = .inl (fIC σ a 160) := rfl
theorem zg161 (σ : CsC) (a : Nat) : gtC σ a 161 = .inl (fIC σ a 161) := rfl
theorem zg162 (σ : CsC) (a : Nat) : gtC σ a 162 = .inl (fIC σ a 162) := rfl
theorem zg163 (σ : CsC) (a : Nat) : gtC σ a 163 = .inl (fIC σ a 163) := rfl
theorem zg164 (σ : CsC) (a : Nat) : gtC σ a 164 = .inl (fIC σ a 164) := rfl
theorem zg165 (σ : CsC) (a : Nat) : gtC σ a 165 = .inl (fIC σ a 165) := rfl
theorem zg166 (σ : CsC) (a : Nat) : gtC σ a 166 = .inl (fIC σ a 166) := rfl
theorem zg167 (σ : CsC) (a : Nat) : gtC σ a 167 = .inl (fIC σ a 167) := rfl
theorem zg168 (σ : CsC) (a : Nat) : gtC σ a 168 = .inl (fIC σ a 168) := rfl
theorem zg169 (σ : CsC) (a : Nat) : gtC σ a 169 = .inl (fIC σ a 169) := rfl
theorem zg170 (σ : CsC) (a : Nat) : gtC σ a 170 = .inr (.inl (fLC σ a 170)) := rfl
theorem zg180 (σ : CsC) (a : Nat) : gtC σ a 180 = .inl (fIC σ a 180) := rfl
theorem zg181 (σ : CsC) (a : Nat) : gtC σ a 181 = .inr (.inl (fLC σ a 181)) := rfl
theorem zg182 (σ : CsC) (a : Nat) : gtC σ a 182 = .inl (fIC σ a 182) := rfl
theorem zg183 (σ : CsC) (a : Nat) : gtC σ a 183 = .inr (.inr (fRC σ a 183)) := rfl
theorem zg184 (σ : CsC) (a : Nat) : gtC σ a 184 = .inl (fIC σ a 184) := rfl
theorem zg185 (σ : CsC) (a : Nat) : gtC σ a 185 = .inl (fIC σ a 185) := rfl
theorem zg186 (σ : CsC) (a : Nat) : gtC σ a 186 = .inr (.inr (fRC σ a 186)) := rfl
theorem zg210 (σ : CsC) (a : Nat) : gtC σ a 210 = .inr (.inr (fRC σ a 210)) := rfl
theorem zg211 (σ : CsC) (a : Nat) : gtC σ a 211 = .inr (.inr (fRC σ a 211)) := rfl
theorem zg212 (σ : CsC) (a : Nat) : gtC σ a 212 = .inr (.inr (fRC σ a 212)) := rfl
theorem zg213 (σ : CsC) (a : Nat) : gtC σ a 213 = .inr (.inr (fRC σ a 213)) := rfl
theorem zg214 (σ : CsC) (a : Nat) : gtC σ a 214 = .inr (.inr (fRC σ a 214)) := rfl
theorem zg215 (σ : CsC) (a : Nat) : gtC σ a 215 = .inr (.inr (fRC σ a 215)) := rfl
theorem zg216 (σ : CsC) (a : Nat) : gtC σ a 216 = .inr (.inr (fRC σ a 216)) := rfl
theorem zg217 (σ : CsC) (a : Nat) : gtC σ a 217 = .inl (fIC σ a 217) := rfl
theorem zg218 (σ : CsC) (a : Nat) : gtC σ a 218 = .inl (fIC σ a 218) := rfl
theorem zg240 (σ : CsC) (a : Nat) : gtC σ a 240 = .inr (.inr (fRC σ a 240)) := rfl
theorem zg241 (σ : CsC) (a : Nat) : gtC σ a 241 = .inr (.inr (fRC σ a 241)) := rfl
theorem zg242 (σ : CsC) (a : Nat) : gtC σ a 242 = .inl (fIC σ a 242) := rfl
theorem zg243 (σ : CsC) (a : Nat) : gtC σ a 243 = .inl (fIC σ a 243) := rfl
theorem zg244 (σ : CsC) (a : Nat) : gtC σ a 244 = .inl (fIC σ a 244) := rfl
theorem zg245 (σ : CsC) (a : Nat) : gtC σ a 245 = .inr (.inl (fLC σ a 245)) := rfl
theorem zg246 (σ : CsC) (a : Nat) : gtC σ a 246 = .inr (.inr (fRC σ a 246)) := rfl
theorem zg270 (σ : CsC) (a : Nat) : gtC σ a 270 = .inl (fIC σ a 270) := rfl
theorem zg271 (σ : CsC) (a : Nat) : gtC σ a 271 = .inl (fIC σ a 271) := rfl
theorem zg272 (σ : CsC) (a : Nat) : gtC σ a 272 = .inl (fIC σ a 272) := rfl
theorem zg273 (σ : CsC) (a : Nat) : gtC σ a 273 = .inr (.inr (fRC σ a 273)) := rfl
theorem zg274 (σ : CsC) (a : Nat) : gtC σ a 274 = .inr (.inl (fLC σ a 274)) := rfl
theorem zg275 (σ : CsC) (a : Nat) : gtC σ a 275 = .inr (.inr (fRC σ a 275)) := rfl
theorem zg276 (σ : CsC) (a : Nat) : gtC σ a 276 = .inr (.inr (fRC σ a 276)) := rfl
theorem zg277 (σ : CsC) (a : Nat) : gtC σ a 277 = .inr (.inr (fRC σ a 277)) := rfl
theorem zg278 (σ : CsC) (a : Nat) : gtC σ a 278 = .inr (.inr (fRC σ a 278)) := rfl
theorem zg279 (σ : CsC) (a : Nat) : gtC σ a 279 = .inr (.inr (fRC σ a 279)) := rfl
theorem zg280 (σ : CsC) (a : Nat) : gtC σ a 280 = .inl (fIC σ a 280) := rfl
theorem zg281 (σ : CsC) (a : Nat) : gtC σ a 281 = .inr (.inr (fRC σ a 281)) := rfl
theorem zg282 (σ : CsC) (a : Nat) : gtC σ a 282 = .inl (fIC σ a 282) := rfl
theorem zg283 (σ : CsC) (a : Nat) : gtC σ a 283 = .inl (fIC σ a 283) := rfl
theorem zg284 (σ : CsC) (a : Nat) : gtC σ a 284 = .inl (fIC σ a 284) := rfl
theorem zg285 (σ : CsC) (a : Nat) : gtC σ a 285 = .inr (.inl (fLC σ a 285)) := rfl
theorem zg286 (σ : CsC) (a : Nat) : gtC σ a 286 = .inr (.inl (fLC σ a 286)) := rfl
theorem zg287 (σ : CsC) (a : Nat) : gtC σ a 287 = .inr (.inl (fLC σ a 287)) := rfl
theorem zg288 (σ : CsC) (a : Nat) : gtC σ a 288 = .inr (.inl (fLC σ a 288)) := rfl
theorem zg289 (σ : CsC) (a : Nat) : gtC σ a 289 = .inl (fIC σ a 289) := rfl
theorem zg290 (σ : CsC) (a : Nat) : gtC σ a 290 = .inl (fIC σ a 290) := rfl
theorem zg300 (σ : CsC) (a : Nat) : gtC σ a 300 = .inr (.inr (fRC σ a 300)) := rfl
theorem zg301 (σ : CsC) (a : Nat) : gtC σ a 301 = .inr (.inr (fRC σ a 301)) := rfl
theorem zg302 (σ : CsC) (a : Nat) : gtC σ a 302 = .inr (.inr (fRC σ a 302)) := rfl
theorem zg303 (σ : CsC) (a : Nat) : gtC σ a 303 = .inr (.inr (fRC σ a 303)) := rfl
theorem zg304 (σ : CsC) (a : Nat) : gtC σ a 304 = .inr (.inr (fRC σ a 304)) := rfl
theorem zg305 (σ : CsC) (a : Nat) : gtC σ a 305 = .inl (fIC σ a 305) := rfl
theorem zg306 (σ : CsC) (a : Nat) : gtC σ a 306 = .inr (.inr (fRC σ a 306)) := rfl
theorem zg307 (σ : CsC) (a : Nat) : gtC σ a 307 = .inr (.inr (fRC σ a 307)) := rfl
theorem zg308 (σ : CsC) (a : Nat) : gtC σ a 308 = .inl (fIC σ a 308) := rfl
theorem zg330 (σ : CsC) (a : Nat) : gtC σ a 330 = .inl (fIC σ a 330) := rfl
theorem zg331 (σ : CsC) (a : Nat) : gtC σ a 331 = .inl (fIC σ a 331) := rfl
theorem zg332 (σ : CsC) (a : Nat) : gtC σ a 332 = .inl (fIC σ a 332) := rfl
theorem zg333 (σ : CsC) (a : Nat) : gtC σ a 333 = .inl (fIC σ a 333) := rfl
theorem zg334 (σ : CsC) (a : Nat) : gtC σ a 334 = .inl (fIC σ a 334) := rfl
theorem zg335 (σ : CsC) (a : Nat) : gtC σ a 335 = .inl (fIC σ a 335) := rfl
theorem zg336 (σ : CsC) (a : Nat) : gtC σ a 336 = .inr (.inl (fLC σ a 336)) := rfl
theorem zg360 (σ : CsC) (a : Nat) : gtC σ a 360 = .inr (.inr (fRC σ a 360)) := rfl
theorem zg361 (σ : CsC) (a : Nat) : gtC σ a 361 = .inr (.inr (fRC σ a 361)) := rfl
theorem zg362 (σ : CsC) (a : Nat) : gtC σ a 362 = .inr (.inr (fRC σ a 362)) := rfl
theorem zg363 (σ : CsC) (a : Nat) : gtC σ a 363 = .inr (.inr (fRC σ a 363)) := rfl
theorem zg364 (σ : CsC) (a : Nat) : gtC σ a 364 = .inr (.inr (fRC σ a 364)) := rfl
theorem zg365 (σ : CsC) (a : Nat) : gtC σ a 365 = .inr (.inr (fRC σ a 365)) := rfl
theorem zg366 (σ : CsC) (a : Nat) : gtC σ a 366 = .inr (.inr (fRC σ a 366)) := rfl
theorem zg367 (σ : CsC) (a : Nat) : gtC σ a 367 = .inr (.inr (fRC σ a 367)) := rfl
theorem zg368 (σ : CsC) (a : Nat) : gtC σ a 368 = .inr (.inr (fRC σ a 368)) := rfl
theorem zg369 (σ : CsC) (a : Nat) : gtC σ a 369 = .inl (fIC σ a 369) := rfl
theorem zg370 (σ : CsC) (a : Nat) : gtC σ a 370 = .inl (fIC σ a 370) := rfl
theorem zg371 (σ : CsC) (a : Nat) : gtC σ a 371 = .inl (fIC σ a 371) := rfl
theorem zg372 (σ : CsC) (a : Nat) : gtC σ a 372 = .inl (fIC σ a 372) := rfl

theorem FzC.rd {n m : Nat} {E A B V : Nat → Nat} {z z' : ZS} {σ τ : CsC} (hc : cnC τ = cnC σ) (hf : ∀ o, o < cnC σ → ∀ k, xsF k = true → fIC τ o k = fIC σ o k ∧ fLC τ o k = fLC σ o k ∧ fRC τ o k = fRC σ o k) (hn : n ≤ cnC σ) (he : eIC τ = eIC σ) (e : z'.2 = z.2) (e3 : z'.1.2 = z.1.2) (ha : zAt z.1 ≤ zAt z'.1) : FzC n m E A A B B V V z z' σ τ := by
  obtain ⟨s, r⟩ := z
  obtain ⟨s', r'⟩ := z'
  cases e
  obtain ⟨s1, s2⟩ := s
  obtain ⟨s1', s2'⟩ := s'
  cases e3
  exact ⟨Nat.le_of_eq hc.symm, fun o ho k hk => hf o (by omega) k hk, ⟨⟨Nat.le_refl _, fun _ _ => ⟨rfl, rfl⟩⟩, fun i h1 h2 => absurd h2 (Nat.not_lt.mpr h1)⟩, ⟨⟨Nat.le_refl _, fun _ _ => ⟨rfl, rfl, rfl⟩⟩, fun i h1 h2 => absurd h2 (Nat.not_lt.mpr h1)⟩, ⟨Nat.le_refl _, fun _ _ => ⟨rfl, rfl⟩⟩, ha, fun j _ => by rw [he]⟩
theorem ZC.we {N : Int → Int} {E A B V : Nat → Nat} {σ τ : CsC} {z : ZS} (h : ZC N E A B V σ z) (w : WeC σ τ) : ZC N E A B V τ z := h.nw (fun a _ k => ⟨by rw [we_i w], by rw [we_l w], by rw [we_r w]⟩) ⟨we_ei w, we_el w, we_er w⟩ (Nat.le_of_eq (we_c w).symm)
theorem FzC.we {n m : Nat} {E A A' B B' V V' : Nat → Nat} {z z' : ZS} {σ τ υ : CsC} (h : FzC n m E A A' B B' V V' z z' σ τ) (w : WeC τ υ) : FzC n m E A A' B B' V V' z z' σ υ := by
  unfold FzC at *
  rw [we_c w, we_i w, we_l w, we_r w, we_ei w]
  exact h
theorem acc_n {s : SpC} (h : zFt (accY s) = 0) : zAt s < 500 ∧ zFt s = 0 ∧ accY s = ((zAt s + 1, zFt s, zPl s), s.2) := by
  have h1 : zFt s = 0 := (gd_acc s).z h
  have h2 : zAt s < 500 := by
    refine Classical.byContradiction (fun q => ?_)
    unfold accY at h
    rw [if_pos (by omega)] at h
    exact raiY_z (by decide) h
  refine ⟨h2, h1, ?_⟩
  unfold accY
  rw [if_neg (by omega), if_pos h1]
theorem xp_nz {c : Int} {s : SpC} (h : zFt (xpY c s) = 0) : codY s = c ∧ xpY c s = accY s := by
  have e : codY s = c := Classical.byContradiction (fun q => by
    unfold xpY at h
    rw [if_neg q] at h
    exact raiY_z (by decide) h)
  exact ⟨e, by unfold xpY; rw [if_pos e]⟩
theorem typ_nz {s : SpC} (h : zFt (typY s) = 0) : (50 ≤ codY s ∧ codY s ≤ 54) ∧ typY s = accY s := by
  have e : 50 ≤ codY s ∧ codY s ≤ 54 := Classical.byContradiction (fun q => by
    unfold typY at h
    rw [if_neg q] at h
    exact raiY_z (by decide) h)
  exact ⟨e, by unfold typY; rw [if_pos e]⟩
theorem ZC.at0 {N : Int → Int} {E A B V : Nat → Nat} {σ : CsC} {z : ZS} (h : ZC N E A B V σ z) (H : HI0 σ ∧ TyC σ (E 0) 8) : 0 ≤ zAt z.1 ∧ zAt z.1 ≤ 500 := by
  obtain ⟨x, -, e, h1, h2⟩ := cg242 H.1 H.2
  rw [← h.2.1.1.1, e]
  exact ⟨h1, h2⟩
abbrev Pz_code : ((Int → Int) × (Nat → Nat) × (Nat → Nat) × (Nat → Nat) × (Nat → Nat) × ZS) → CpC := fun y As σ => match y with
  | (N, E, A, B, V, z) => As = [.inr (.inr (some (E 0)))] ∧ (ZC N E A B V σ z)
abbrev Qz_code : ((Int → Int) × (Nat → Nat) × (Nat → Nat) × (Nat → Nat) × (Nat → Nat) × ZS) → CqC := fun y As σ w τ => match y, As with
  | (N, E, A, B, V, z), [_] => ∃ c, w = some (.inl c) ∧ c.toInt = codY z.1 ∧ σ = τ
  | _, _ => True
abbrev Uz_code : CqC := fun As σ w τ => ∀ y, Pz_code y As σ → Qz_code y As σ w τ
set_option maxHeartbeats 4000000 in
theorem pz_code (y : (Int → Int) × (Nat → Nat) × (Nat → Nat) × (Nat → Nat) × (Nat → Nat) × ZS) : PbC KX7_code [] [] (fun As σ => Pz_code y As σ ∧ cnC σ ≤ 1000000 ∧ ∃ w τ, uqC quL 125 As σ w τ) (Qz_code y) := by
  obtain ⟨N, E, A, B, V, z⟩ := y
  rintro As σ ⟨⟨rfl, hZ⟩, hcn, _, _, hQ⟩ K hB hW n_
  have hH : HI0 σ ∧ TyC σ (E 0) 8 := hQ
  have hat := hZ.at0 hH
  change K n_ 0 [(0, .inr (.inr (some (E 0))))] [] σ
  refine hB _ _ _ _ _ (fun m51 hm51 => ?_)
  dsimp only [ucgo, ucwp, ucsC, uqC, uoC, ctC, rfd, KX7_code, KX7_code_0, KX7_code_7, KX7_code_22, KX7_code_23, lkC, s1C, s2C, dlC, kyC, Nat.beq, Nat.ble, rcd, rno, rsw, Nat.reduceAdd, Nat.reduceBEq, Nat.reduceDiv, List.drop, List.take, List.reverse, List.reverseAux, Int.toNat, Option.toList, List.append, List.cons_append, List.nil_append, zg241, zg242, zg243, zg302]
  intro a52 e52 ob52
  cases e52
  have f53 : (fIC σ (E 0) 243).toInt = zFt z.1 := hZ.2.1.1.2
  refine ⟨fun h54 => ?_, fun h54 => ?_⟩
  · have g54 := (neI (x := (fIC σ (E 0) 243)) (y := 0) h54 : ¬ ((fIC σ (E 0) 243) : Int32).toInt = (0 : Int32).toInt)
    have z0_ : (0 : Int32).toInt = 0 := rfl
    refine hB _ _ _ _ _ (fun m55 hm55 => ?_)
    dsimp only [ucgo, ucwp, ucsC, uqC, uoC, ctC, rfd, KX7_code, KX7_code_0, KX7_code_7, KX7_code_22, KX7_code_23, lkC, s1C, s2C, dlC, kyC, Nat.beq, Nat.ble, rcd, rno, rsw, Nat.reduceAdd, Nat.reduceBEq, Nat.reduceDiv, List.drop, List.take, List.reverse, List.reverseAux, Int.toNat, Option.toList, List.append, List.cons_append, List.nil_append, zg241, zg242, zg243, zg302]
    have c56 : (Int32.ofInt (-1)).toInt = -1 := by decide
    refine hB _ _ _ _ _ (fun m57 hm57 => ?_)
    dsimp only [ucgo, ucwp, ucsC, uqC, uoC, ctC, rfd, KX7_code, KX7_code_0, KX7_code_7, KX7_code_22, KX7_code_23, lkC, s1C, s2C, dlC, kyC, Nat.beq, Nat.ble, rcd, rno, rsw, Nat.reduceAdd, Nat.reduceBEq, Nat.reduceDiv, List.drop, List.take, List.reverse, List.reverseAux, Int.toNat, Option.toList, List.append, List.cons_append, List.nil_append, zg241, zg242, zg243, zg302]
    try dsimp only [Qz_code]
    exact ⟨_, rfl, by unfold codY; rw [if_neg (by omega)]; omega, rfl⟩
  · have g54 := (eqI (x := (fIC σ (E 0) 243)) (y := 0) h54 : ((fIC σ (E 0) 243) : Int32).toInt = (0 : Int32).toInt)
    have z0_ : (0 : Int32).toInt = 0 := rfl
    refine hB _ _ _ _ _ (fun m58 hm58 => ?_)
    dsimp only [ucgo, ucwp, ucsC, uqC, uoC, ctC, rfd, KX7_code, KX7_code_0, KX7_code_7, KX7_code_22, KX7_code_23, lkC, s1C, s2C, dlC, kyC, Nat.beq, Nat.ble, rcd, rno, rsw, Nat.reduceAdd, Nat.reduceBEq, Nat.reduceDiv, List.drop, List.take, List.reverse, List.reverseAux, Int.toNat, Option.toList, List.append, List.cons_append, List.nil_append, zg241, zg242, zg243, zg302]
    intro a59 e59 ob59
    cases e59
    intro a60 e60 ob60
    obtain rfl : E 2 = a60 := Option.some.inj (hZ.1.1.2.symm.trans e60)
    intro a61 e61 ob61
    cases e61
    have f62 : (fIC σ (E 0) 242).toInt = zAt z.1 := hZ.2.1.1.1
    intro a63 e63
    obtain rfl : E 302 = a63 := Option.some.inj (hZ.1.2.2.1.1.symm.trans e63)
    refine ⟨fun t63 v63 => ?_, fun y63 => absurd y63 (by have := hZ.1.2.2.2.2.2.1.1; omega), fun y63 => absurd y63 (by have := hZ.1.2.2.2.2.2.1.1; omega)⟩
    have f63 : (eIC σ (E 302) (fIC σ (E 0) 242).toNatClampNeg).toInt = zK z.1 (zAt z.1).toNat := by rw [hZ.2.2.1.1, nT_toNat, show ((fIC σ (E 0) 242) : Int32).toInt = zAt z.1 by omega]
    refine hB _ _ _ _ _ (fun m64 hm64 => ?_)
    dsimp only [ucgo, ucwp, ucsC, uqC, uoC, ctC, rfd, KX7_code, KX7_code_0, KX7_code_7, KX7_code_22, KX7_code_23, lkC, s1C, s2C, dlC, kyC, Nat.beq, Nat.ble, rcd, rno, rsw, Nat.reduceAdd, Nat.reduceBEq, Nat.reduceDiv, List.drop, List.take, List.reverse, List.reverseAux, Int.toNat, Option.toList, List.append, List.cons_append, List.nil_append, zg241, zg242, zg243, zg302]
    try dsimp only [Qz_code]
    exact ⟨_, rfl, by unfold codY; rw [if_pos (by omega)]; omega, rfl⟩
theorem wz_code : ∀ (L : Nat) (As : List AvC) (σ : CsC) (w : Option AvC) (τ : CsC), EvF L 125 As σ w τ → Uz_code As σ w τ := by
  intro L
  cases L with
  | zero => exact fun _ _ _ _ h => h.elim
  | succ L => exact fun As σ w τ h y hy => EvF.us (cs := []) (pz_code y) rfl (fun _ h => absurd h List.not_mem_nil) h hy
abbrev Pz_codeBehind : ((Int → Int) × (Nat → Nat) × (Nat → Nat) × (Nat → Nat) × (Nat → Nat) × ZS) → CpC := fun y As σ => match y with
  | (N, E, A, B, V, z) => As = [.inr (.inr (some (E 0)))] ∧ (ZC N E A B V σ z)
abbrev Qz_codeBehind : ((Int → Int) × (Nat → Nat) × (Nat → Nat) × (Nat → Nat) × (Nat → Nat) × ZS) → CqC := fun y As σ w τ => match y, As with
  | (N, E, A, B, V, z), [_] => ∃ c, w = some (.inl c) ∧ c.toInt = cobY z.1 ∧ σ = τ
  | _, _ => True
abbrev Uz_codeBehind : CqC := fun As σ w τ => ∀ y, Pz_codeBehind y As σ → Qz_codeBehind y As σ w τ
set_option maxHeartbeats 4000000 in
theorem pz_codeBehind (y : (Int → Int) × (Nat → Nat) × (Nat → Nat) × (Nat → Nat) × (Nat → Nat) × ZS) : PbC KX7_codeBehind [] [] (fun As σ => Pz_codeBehind y As σ ∧ cnC σ ≤ 1000000 ∧ ∃ w τ, uqC quL 126 As σ w τ) (Qz_codeBehind y) := by
  obtain ⟨N, E, A, B, V, z⟩ := y
  rintro As σ ⟨⟨rfl, hZ⟩, hcn, _, _, hQ⟩ K hB hW n_
  have hH : HI0 σ ∧ TyC σ (E 0) 8 := hQ
  have hat := hZ.at0 hH
  change K n_ 0 [(0, .inr (.inr (some (E 0))))] [] σ
  refine hB _ _ _ _ _ (fun m51 hm51 => ?_)
  dsimp only [ucgo, ucwp, ucsC, uqC, uoC, ctC, rfd, KX7_codeBehind, KX7_codeBehind_0, KX7_codeBehind_7, KX7_codeBehind_17, KX7_codeBehind_34, KX7_codeBehind_35, lkC, s1C, s2C, dlC, kyC, Nat.beq, Nat.ble, rcd, rno, rsw, Nat.reduceAdd, Nat.reduceBEq, Nat.reduceDiv, List.drop, List.take, List.reverse, List.reverseAux, Int.toNat, Option.toList, List.append, List.cons_append, List.nil_append, zg241, zg242, zg243, zg302]
  intro a52 e52 ob52
  cases e52
  have f53 : (fIC σ (E 0) 243).toInt = zFt z.1 := hZ.2.1.1.2
  refine ⟨fun h54 => ?_, fun h54 => ?_⟩
  · have g54 := (neI (x := (fIC σ (E 0) 243)) (y := 0) h54 : ¬ ((fIC σ (E 0) 243) : Int32).toInt = (0 : Int32).toInt)
    have z0_ : (0 : Int32).toInt = 0 := rfl
    refine hB _ _ _ _ _ (fun m55 hm55 => ?_)
    dsimp only [ucgo, ucwp, ucsC, uqC, uoC, ctC, rfd, KX7_codeBehind, KX7_codeBehind_0, KX7_codeBehind_7, KX7_codeBehind_17, KX7_codeBehind_34, KX7_codeBehind_35, lkC, s1C, s2C, dlC, kyC, Nat.beq, Nat.ble, rcd, rno, rsw, Nat.reduceAdd, Nat.reduceBEq, Nat.reduceDiv, List.drop, List.take, List.reverse, List.reverseAux, Int.toNat, Option.toList, List.append, List.cons_append, List.nil_append, zg241, zg242, zg243, zg302]
    have c56 : (Int32.ofInt (-1)).toInt = -1 := by decide
    refine hB _ _ _ _ _ (fun m57 hm57 => ?_)
    dsimp only [ucgo, ucwp, ucsC, uqC, uoC, ctC, rfd, KX7_codeBehind, KX7_codeBehind_0, KX7_codeBehind_7, KX7_codeBehind_17, KX7_codeBehind_34, KX7_codeBehind_35, lkC, s1C, s2C, dlC, kyC, Nat.beq, Nat.ble, rcd, rno, rsw, Nat.reduceAdd, Nat.reduceBEq, Nat.reduceDiv, List.drop, List.take, List.reverse, List.reverseAux, Int.toNat, Option.toList, List.append, List.cons_append, List.nil_append, zg241, zg242, zg243, zg302]
    try dsimp only [Qz_codeBehind]
    refine ⟨_, rfl, ?_, rfl⟩
    unfold cobY
    by_cases q9 : zFt z.1 = 0
    · rw [if_pos q9, if_neg (by omega)]; omega
    · rw [if_neg q9]; omega
  · have g54 := (eqI (x := (fIC σ (E 0) 243)) (y := 0) h54 : ((fIC σ (E 0) 243) : Int32).toInt = (0 : Int32).toInt)
    have z0_ : (0 : Int32).toInt = 0 := rfl
    refine hB _ _ _ _ _ (fun m58 hm58 => ?_)
    dsimp only [ucgo, ucwp, ucsC, uqC, uoC, ctC, rfd, KX7_codeBehind, KX7_codeBehind_0, KX7_codeBehind_7, KX7_codeBehind_17, KX7_codeBehind_34, KX7_codeBehind_35, lkC, s1C, s2C, dlC, kyC, Nat.beq, Nat.ble, rcd, rno, rsw, Nat.reduceAdd, Nat.reduceBEq, Nat.reduceDiv, List.drop, List.take, List.reverse, List.reverseAux, Int.toNat, Option.toList, List.append, List.cons_append, List.nil_append, zg241, zg242, zg243, zg302]
    intro a59 e59 ob59
    cases e59
    have f60 : (fIC σ (E 0) 242).toInt = zAt z.1 := hZ.2.1.1.1
    have c61 : (Int32.ofInt 500).toInt = 500 := by decide
    refine ⟨fun h62 => ?_, fun h62 => ?_⟩
    · have g62 := leI (x := (Int32.ofInt 500)) (y := (fIC σ (E 0) 242)) h62
      refine hB _ _ _ _ _ (fun m63 hm63 => ?_)
      dsimp only [ucgo, ucwp, ucsC, uqC, uoC, ctC, rfd, KX7_codeBehind, KX7_codeBehind_0, KX7_codeBehind_7, KX7_codeBehind_17, KX7_codeBehind_34, KX7_codeBehind_35, lkC, s1C, s2C, dlC, kyC, Nat.beq, Nat.ble, rcd, rno, rsw, Nat.reduceAdd, Nat.reduceBEq, Nat.reduceDiv, List.drop, List.take, List.reverse, List.reverseAux, Int.toNat, Option.toList, List.append, List.cons_append, List.nil_append, zg241, zg242, zg243, zg302]
      have c64 : (Int32.ofInt (-1)).toInt = -1 := by decide
      refine hB _ _ _ _ _ (fun m65 hm65 => ?_)
      dsimp only [ucgo, ucwp, ucsC, uqC, uoC, ctC, rfd, KX7_codeBehind, KX7_codeBehind_0, KX7_codeBehind_7, KX7_codeBehind_17, KX7_codeBehind_34, KX7_codeBehind_35, lkC, s1C, s2C, dlC, kyC, Nat.beq, Nat.ble, rcd, rno, rsw, Nat.reduceAdd, Nat.reduceBEq, Nat.reduceDiv, List.drop, List.take, List.reverse, List.reverseAux, Int.toNat, Option.toList, List.append, List.cons_append, List.nil_append, zg241, zg242, zg243, zg302]
      try dsimp only [Qz_codeBehind]
      refine ⟨_, rfl, ?_, rfl⟩
      unfold cobY
      by_cases q9 : zFt z.1 = 0
      · rw [if_pos q9, if_neg (by omega)]; omega
      · rw [if_neg q9]; omega
    · have g62 := nleI (x := (Int32.ofInt 500)) (y := (fIC σ (E 0) 242)) h62
      refine hB _ _ _ _ _ (fun m66 hm66 => ?_)
      dsimp only [ucgo, ucwp, ucsC, uqC, uoC, ctC, rfd, KX7_codeBehind, KX7_codeBehind_0, KX7_codeBehind_7, KX7_codeBehind_17, KX7_codeBehind_34, KX7_codeBehind_35, lkC, s1C, s2C, dlC, kyC, Nat.beq, Nat.ble, rcd, rno, rsw, Nat.reduceAdd, Nat.reduceBEq, Nat.reduceDiv, List.drop, List.take, List.reverse, List.reverseAux, Int.toNat, Option.toList, List.append, List.cons_append, List.nil_append, zg241, zg242, zg243, zg302]
      intro a67 e67 ob67
      cases e67
      intro a68 e68 ob68
      obtain rfl : E 2 = a68 := Option.some.inj (hZ.1.1.2.symm.trans e68)
      intro a69 e69 ob69
      cases e69
      have f70 : (fIC σ (E 0) 242).toInt = zAt z.1 := hZ.2.1.1.1
      have c71 : (Int32.ofInt 1).toInt = 1 := by decide
      have u72 := tiC (fIC σ (E 0) 242)
      have a72 : ((fIC σ (E 0) 242) + (Int32.ofInt 1)).toInt = zAt z.1 + 1 := addC (by omega) (by omega) (by omega)
      intro a73 e73
      obtain rfl : E 302 = a73 := Option.some.inj (hZ.1.2.2.1.1.symm.trans e73)
      refine ⟨fun t73 v73 => ?_, fun y73 => absurd y73 (by have := hZ.1.2.2.2.2.2.1.1; omega), fun y73 => absurd y73 (by have := hZ.1.2.2.2.2.2.1.1; omega)⟩
      have f73 : (eIC σ (E 302) ((fIC σ (E 0) 242) + (Int32.ofInt 1)).toNatClampNeg).toInt = zK z.1 ((zAt z.1 + 1)).toNat := by rw [hZ.2.2.1.1, nT_toNat, show (((fIC σ (E 0) 242) + (Int32.ofInt 1)) : Int32).toInt = (zAt z.1 + 1) by omega]
      refine hB _ _ _ _ _ (fun m74 hm74 => ?_)
      dsimp only [ucgo, ucwp, ucsC, uqC, uoC, ctC, rfd, KX7_codeBehind, KX7_codeBehind_0, KX7_codeBehind_7, KX7_codeBehind_17, KX7_codeBehind_34, KX7_codeBehind_35, lkC, s1C, s2C, dlC, kyC, Nat.beq, Nat.ble, rcd, rno, rsw, Nat.reduceAdd, Nat.reduceBEq, Nat.reduceDiv, List.drop, List.take, List.reverse, List.reverseAux, Int.toNat, Option.toList, List.append, List.cons_append, List.nil_append, zg241, zg242, zg243, zg302]
      try dsimp only [Qz_codeBehind]
      exact ⟨_, rfl, by unfold cobY; rw [if_pos (by omega), if_pos (by omega)]; omega, rfl⟩
theorem wz_codeBehind : ∀ (L : Nat) (As : List AvC) (σ : CsC) (w : Option AvC) (τ : CsC), EvF L 126 As σ w τ → Uz_codeBehind As σ w τ := by
  intro L
  cases L with
  | zero => exact fun _ _ _ _ h => h.elim
  | succ L => exact fun As σ w τ h y hy => EvF.us (cs := []) (pz_codeBehind y) rfl (fun _ h => absurd h List.not_mem_nil) h hy
abbrev Pz_accept : ((Int → Int) × (Nat → Nat) × (Nat → Nat) × (Nat → Nat) × (Nat → Nat) × ZS) → CpC := fun y As σ => match y with
  | (N, E, A, B, V, z) => As = [.inr (.inr (some (E 0)))] ∧ (ZC N E A B V σ z) ∧ (zFt (accM z).1 = 0)
abbrev Qz_accept : ((Int → Int) × (Nat → Nat) × (Nat → Nat) × (Nat → Nat) × (Nat → Nat) × ZS) → CqC := fun y As σ w τ => match y, As with
  | (N, E, A, B, V, z), [_] => w = none ∧ ZC N E A B V τ (accM z) ∧ FzC (cnC σ) (xnM z) E A A B B V V z (accM z) σ τ
  | _, _ => True
abbrev Uz_accept : CqC := fun As σ w τ => ∀ y, Pz_accept y As σ → Qz_accept y As σ w τ
set_option maxHeartbeats 4000000 in
theorem pz_accept (y : (Int → Int) × (Nat → Nat) × (Nat → Nat) × (Nat → Nat) × (Nat → Nat) × ZS) : PbC KX7_accept [(127, TrP, EqC 127)] [] (fun As σ => Pz_accept y As σ ∧ cnC σ ≤ 1000000 ∧ ∃ w τ, uqC quL 128 As σ w τ) (Qz_accept y) := by
  obtain ⟨N, E, A, B, V, z⟩ := y
  rintro As σ ⟨⟨rfl, hZ, hft⟩, hcn, _, _, hQ⟩ K hB hW n_
  have hH : HI0 σ ∧ TyC σ (E 0) 8 := hQ
  have hat := hZ.at0 hH
  have hac := acc_n hft
  change K n_ 0 [(0, .inr (.inr (some (E 0))))] [] σ
  refine hB _ _ _ _ _ (fun m51 hm51 => ?_)
  dsimp only [ucgo, ucwp, ucsC, uqC, uoC, ctC, rfd, KX7_accept, KX7_accept_0, KX7_accept_10, KX7_accept_18, KX7_accept_25, KX7_accept_35, lkC, s1C, s2C, dlC, kyC, Nat.beq, Nat.ble, rcd, rno, rsw, Nat.reduceAdd, Nat.reduceBEq, Nat.reduceDiv, List.drop, List.take, List.reverse, List.reverseAux, Int.toNat, Option.toList, List.append, List.cons_append, List.nil_append, zg242, zg243]
  intro a52 e52 ob52
  cases e52
  have f53 : (fIC σ (E 0) 242).toInt = zAt z.1 := hZ.2.1.1.1
  have c54 : (Int32.ofInt 500).toInt = 500 := by decide
  refine ⟨fun h55 => ?_, fun h55 => ?_⟩
  · have g55 := ltI (x := (fIC σ (E 0) 242)) (y := (Int32.ofInt 500)) h55
    refine hB _ _ _ _ _ (fun m56 hm56 => ?_)
    dsimp only [ucgo, ucwp, ucsC, uqC, uoC, ctC, rfd, KX7_accept, KX7_accept_0, KX7_accept_10, KX7_accept_18, KX7_accept_25, KX7_accept_35, lkC, s1C, s2C, dlC, kyC, Nat.beq, Nat.ble, rcd, rno, rsw, Nat.reduceAdd, Nat.reduceBEq, Nat.reduceDiv, List.drop, List.take, List.reverse, List.reverseAux, Int.toNat, Option.toList, List.append, List.cons_append, List.nil_append, zg242, zg243]
    intro a57 e57 ob57
    cases e57
    have f58 : (fIC σ (E 0) 243).toInt = zFt z.1 := hZ.2.1.1.2
    refine ⟨fun h59 => ?_, fun h59 => ?_⟩
    · have g59 := (neI (x := (fIC σ (E 0) 243)) (y := 0) h59 : ¬ ((fIC σ (E 0) 243) : Int32).toInt = (0 : Int32).toInt)
      have z0_ : (0 : Int32).toInt = 0 := rfl
      refine hB _ _ _ _ _ (fun m60 hm60 => ?_)
      dsimp only [ucgo, ucwp, ucsC, uqC, uoC, ctC, rfd, KX7_accept, KX7_accept_0, KX7_accept_10, KX7_accept_18, KX7_accept_25, KX7_accept_35, lkC, s1C, s2C, dlC, kyC, Nat.beq, Nat.ble, rcd, rno, rsw, Nat.reduceAdd, Nat.reduceBEq, Nat.reduceDiv, List.drop, List.take, List.reverse, List.reverseAux, Int.toNat, Option.toList, List.append, List.cons_append, List.nil_append, zg242, zg243]
      try dsimp only [Qz_accept]
      omega
    · have g59 := (eqI (x := (fIC σ (E 0) 243)) (y := 0) h59 : ((fIC σ (E 0) 243) : Int32).toInt = (0 : Int32).toInt)
      have z0_ : (0 : Int32).toInt = 0 := rfl
      refine hB _ _ _ _ _ (fun m61 hm61 => ?_)
      dsimp only [ucgo, ucwp, ucsC, uqC, uoC, ctC, rfd, KX7_accept, KX7_accept_0, KX7_accept_10, KX7_accept_18, KX7_accept_25, KX7_accept_35, lkC, s1C, s2C, dlC, kyC, Nat.beq, Nat.ble, rcd, rno, rsw, Nat.reduceAdd, Nat.reduceBEq, Nat.reduceDiv, List.drop, List.take, List.reverse, List.reverseAux, Int.toNat, Option.toList, List.append, List.cons_append, List.nil_append, zg242, zg243]
      intro a62 e62 ob62
      cases e62
      have f63 : (fIC σ (E 0) 242).toInt = zAt z.1 := hZ.2.1.1.1
      have c64 : (Int32.ofInt 1).toInt = 1 := by decide
      have u65 := tiC (fIC σ (E 0) 242)
      have a65 : ((fIC σ (E 0) 242) + (Int32.ofInt 1)).toInt = zAt z.1 + 1 := addC (by omega) (by omega) (by omega)
      intro a66 e66 ob66 fk66
      cases e66
      clear fk66 ob66
      generalize hs66 : pIC σ (E 0) 242 ((fIC σ (E 0) 242) + (Int32.ofInt 1)) = s66
      refine hB _ _ _ _ _ (fun m67 hm67 => ?_)
      dsimp only [ucgo, ucwp, ucsC, uqC, uoC, ctC, rfd, KX7_accept, KX7_accept_0, KX7_accept_10, KX7_accept_18, KX7_accept_25, KX7_accept_35, lkC, s1C, s2C, dlC, kyC, Nat.beq, Nat.ble, rcd, rno, rsw, Nat.reduceAdd, Nat.reduceBEq, Nat.reduceDiv, List.drop, List.take, List.reverse, List.reverseAux, Int.toNat, Option.toList, List.append, List.cons_append, List.nil_append, zg242, zg243]
      try dsimp only [Qz_accept]
      intro τ hwe
      have ei : ∀ a k, k ≠ 242 → fIC τ a k = fIC σ a k := fun a k hk => by rw [we_i hwe, ← hs66]; exact u2C_nk hk
      have el : fLC τ = fLC σ := by rw [we_l hwe, ← hs66]; rfl
      have er : fRC τ = fRC σ := by rw [we_r hwe, ← hs66]; rfl
      have e1 : eIC τ = eIC σ := by rw [we_ei hwe, ← hs66]; rfl
      have e2 : eLC τ = eLC σ := by rw [we_el hwe, ← hs66]; rfl
      have e3 : eRC τ = eRC σ := by rw [we_er hwe, ← hs66]; rfl
      have ec : cnC τ = cnC σ := by rw [we_c hwe, ← hs66]; rfl
      have e242 : (fIC τ (E 0) 242).toInt = zAt z.1 + 1 := by
        rw [we_i hwe, ← hs66]
        show (u2C (fIC σ) (E 0) 242 _ (E 0) 242).toInt = _
        rw [u2C_eq]
        omega
      have ha : (accM z).1 = ((zAt z.1 + 1, zFt z.1, zPl z.1), z.1.2) := hac.2.2
      refine ⟨rfl, ZC.rd hZ (fun a k h1 _ _ => ei a k h1) ⟨el, er⟩ ⟨e1, e2, e3⟩ ec rfl (by rw [ha]; exact e242) (by rw [ha, ei _ 243 (by decide)]; exact hZ.2.1.1.2) (by rw [ha]), FzC.rd ec (fun o ho k hk => ⟨ei o k (fun q => by rw [q] at hk; cases hk), by rw [el], by rw [er]⟩) (Nat.le_refl _) e1 rfl (by rw [ha]) (by rw [ha]; show zAt z.1 ≤ zAt z.1 + 1; omega)⟩
  · have g55 := nltI (x := (fIC σ (E 0) 242)) (y := (Int32.ofInt 500)) h55
    exfalso
    omega
theorem wz_accept : ∀ (L : Nat) (As : List AvC) (σ : CsC) (w : Option AvC) (τ : CsC), EvF L 128 As σ w τ → Uz_accept As σ w τ := by
  intro L
  cases L with
  | zero => exact fun _ _ _ _ h => h.elim
  | succ L => exact fun As σ w τ h y hy => EvF.us (cs := [127]) (pz_accept y) rfl (List.forall_mem_cons.2 ⟨fun _ _ _ _ _ => trivial, fun _ h => absurd h List.not_mem_nil⟩) h hy
abbrev Pz_expect : ((Int → Int) × (Nat → Nat) × (Nat → Nat) × (Nat → Nat) × (Nat → Nat) × ZS × Int) → CpC := fun y As σ => match y with
  | (N, E, A, B, V, z, c) => ∃ (p1 : Int32), As = [.inr (.inr (some (E 0))), .inl p1] ∧ (ZC N E A B V σ z) ∧ (p1.toInt = c) ∧ (zFt (xpM c z).1 = 0)
abbrev Qz_expect : ((Int → Int) × (Nat → Nat) × (Nat → Nat) × (Nat → Nat) × (Nat → Nat) × ZS × Int) → CqC := fun y As σ w τ => match y, As with
  | (N, E, A, B, V, z, c), [_, .inl p1] => w = none ∧ ZC N E A B V τ (xpM c z) ∧ FzC (cnC σ) (xnM z) E A A B B V V z (xpM c z) σ τ
  | _, _ => True
abbrev Uz_expect : CqC := fun As σ w τ => ∀ y, Pz_expect y As σ → Qz_expect y As σ w τ
set_option maxHeartbeats 4000000 in
theorem pz_expect (y : (Int → Int) × (Nat → Nat) × (Nat → Nat) × (Nat → Nat) × (Nat → Nat) × ZS × Int) : PbC KX7_expect [(125, TrP, EqC 125), (127, TrP, EqC 127), (128, TrP, EqC 128)] [(125, Uz_code), (128, Uz_accept)] (fun As σ => Pz_expect y As σ ∧ cnC σ ≤ 1000000 ∧ ∃ w τ, uqC quL 129 As σ w τ) (Qz_expect y) := by
  obtain ⟨N, E, A, B, V, z, c⟩ := y
  rintro As σ ⟨⟨p1, rfl, hZ, hp1, hft⟩, hcn, _, _, hQ⟩ K hB hW n_
  have hH : HI0 σ ∧ TyC σ (E 0) 8 := hQ
  have hat := hZ.at0 hH
  have hxp := xp_nz hft
  have hfa : zFt (accM z).1 = 0 := by show zFt (accY z.1) = 0; rw [← hxp.2]; exact hft
  change K n_ 0 [(0, .inr (.inr (some (E 0)))), (1, .inl p1)] [] σ
  refine hB _ _ _ _ _ (fun m51 hm51 => ?_)
  dsimp only [ucgo, ucwp, ucsC, uqC, uoC, ctC, rfd, KX7_expect, KX7_expect_0, KX7_expect_8, KX7_expect_15, KX7_expect_20, lkC, s1C, s2C, dlC, kyC, Nat.beq, Nat.ble, rcd, rno, rsw, Nat.reduceAdd, Nat.reduceBEq, Nat.reduceDiv, List.drop, List.take, List.reverse, List.reverseAux, Int.toNat, Option.toList, List.append, List.cons_append, List.nil_append]
  intro w52 τ52 o52 q52
  obtain ⟨c52, rfl, hc52, rfl⟩ := q52 (N, E, A, B, V, z) ⟨rfl, hZ⟩
  try dsimp only [Option.toList, List.cons_append, List.nil_append, s1C, s2C, dlC, kyC, Nat.beq, lkC, rcd, rno, rsw]
  refine ⟨fun h53 => ?_, fun h53 => ?_⟩
  · have g53 := (neI (x := c52) (y := p1) h53 : ¬ (c52 : Int32).toInt = (p1 : Int32).toInt)
    exfalso
    omega
  · have g53 := (eqI (x := c52) (y := p1) h53 : (c52 : Int32).toInt = (p1 : Int32).toInt)
    refine hB _ _ _ _ _ (fun m54 hm54 => ?_)
    dsimp only [ucgo, ucwp, ucsC, uqC, uoC, ctC, rfd, KX7_expect, KX7_expect_0, KX7_expect_8, KX7_expect_15, KX7_expect_20, lkC, s1C, s2C, dlC, kyC, Nat.beq, Nat.ble, rcd, rno, rsw, Nat.reduceAdd, Nat.reduceBEq, Nat.reduceDiv, List.drop, List.take, List.reverse, List.reverseAux, Int.toNat, Option.toList, List.append, List.cons_append, List.nil_append]
    intro w55 τ55 o55 q55
    obtain ⟨rfl, hZ55, hf55⟩ := q55 (N, E, A, B, V, z) ⟨rfl, hZ, hfa⟩
    have hF55 := FzC.tr (FzC.rf (n := cnC σ) (m := xnM z) (E := E) (A := A) (B := B) (V := V) (z := z) (σ := σ)) (FzC.mo hf55 (Nat.le_refl (cnC σ)) ((FzC.rf (n := cnC σ) (m := xnM z) (E := E) (A := A) (B := B) (V := V) (z := z) (σ := σ))).2.2.1.1.1)
    have hle55 : cnC σ ≤ cnC τ55 := Nat.le_trans (Nat.le_refl (cnC σ)) (hf55).1
    try dsimp only [Option.toList, List.cons_append, List.nil_append, s1C, s2C, dlC, kyC, Nat.beq, lkC, rcd, rno, rsw]
    refine hB _ _ _ _ _ (fun m56 hm56 => ?_)
    dsimp only [ucgo, ucwp, ucsC, uqC, uoC, ctC, rfd, KX7_expect, KX7_expect_0, KX7_expect_8, KX7_expect_15, KX7_expect_20, lkC, s1C, s2C, dlC, kyC, Nat.beq, Nat.ble, rcd, rno, rsw, Nat.reduceAdd, Nat.reduceBEq, Nat.reduceDiv, List.drop, List.take, List.reverse, List.reverseAux, Int.toNat, Option.toList, List.append, List.cons_append, List.nil_append]
    try dsimp only [Qz_expect]
    intro τ hwe
    have ez : xpM c z = accM z := by show (xpY c z.1, z.2) = (accY z.1, z.2); rw [hxp.2]
    rw [ez]
    exact ⟨rfl, hZ55.we hwe, hF55.we hwe⟩
theorem wz_expect : ∀ (L : Nat) (As : List AvC) (σ : CsC) (w : Option AvC) (τ : CsC), EvF L 129 As σ w τ → Uz_expect As σ w τ := by
  intro L
  cases L with
  | zero => exact fun _ _ _ _ h => h.elim
  | succ L => exact fun As σ w τ h y hy => EvF.us (cs := [125, 127, 128]) (pz_expect y) rfl (List.forall_mem_cons.2 ⟨wz_code L, List.forall_mem_cons.2 ⟨fun _ _ _ _ _ => trivial, List.forall_mem_cons.2 ⟨wz_accept L, fun _ h => absurd h List.not_mem_nil⟩⟩⟩) h hy
abbrev Pz_takes : ((Int → Int) × (Nat → Nat) × (Nat → Nat) × (Nat → Nat) × (Nat → Nat) × ZS × Int) → CpC := fun y As σ => match y with
  | (N, E, A, B, V, z, c) => ∃ (p1 : Int32), As = [.inr (.inr (some (E 0))), .inl p1] ∧ (ZC N E A B V σ z) ∧ (p1.toInt = c) ∧ (codY z.1 = c → zFt (accM z).1 = 0)
abbrev Qz_takes : ((Int → Int) × (Nat → Nat) × (Nat → Nat) × (Nat → Nat) × (Nat → Nat) × ZS × Int) → CqC := fun y As σ w τ => match y, As with
  | (N, E, A, B, V, z, c), [_, .inl p1] => (∃ r, w = some (.inl r) ∧ r.toInt = 1 ∧ codY z.1 = c ∧ ZC N E A B V τ (accM z) ∧ FzC (cnC σ) (xnM z) E A A B B V V z (accM z) σ τ) ∨ (∃ r, w = some (.inl r) ∧ r.toInt = 0 ∧ ¬ codY z.1 = c ∧ σ = τ)
  | _, _ => True
abbrev Uz_takes : CqC := fun As σ w τ => ∀ y, Pz_takes y As σ → Qz_takes y As σ w τ
set_option maxHeartbeats 4000000 in
theorem pz_takes (y : (Int → Int) × (Nat → Nat) × (Nat → Nat) × (Nat → Nat) × (Nat → Nat) × ZS × Int) : PbC KX7_takes [(125, TrP, EqC 125), (128, TrP, EqC 128)] [(125, Uz_code), (128, Uz_accept)] (fun As σ => Pz_takes y As σ ∧ cnC σ ≤ 1000000 ∧ ∃ w τ, uqC quL 130 As σ w τ) (Qz_takes y) := by
  obtain ⟨N, E, A, B, V, z, c⟩ := y
  rintro As σ ⟨⟨p1, rfl, hZ, hp1, hft⟩, hcn, _, _, hQ⟩ K hB hW n_
  have hH : HI0 σ ∧ TyC σ (E 0) 8 := hQ
  have hat := hZ.at0 hH
  change K n_ 0 [(0, .inr (.inr (some (E 0)))), (1, .inl p1)] [] σ
  refine hB _ _ _ _ _ (fun m51 hm51 => ?_)
  dsimp only [ucgo, ucwp, ucsC, uqC, uoC, ctC, rfd, KX7_takes, KX7_takes_0, KX7_takes_8, KX7_takes_10, lkC, s1C, s2C, dlC, kyC, Nat.beq, Nat.ble, rcd, rno, rsw, Nat.reduceAdd, Nat.reduceBEq, Nat.reduceDiv, List.drop, List.take, List.reverse, List.reverseAux, Int.toNat, Option.toList, List.append, List.cons_append, List.nil_append]
  intro w52 τ52 o52 q52
  obtain ⟨c52, rfl, hc52, rfl⟩ := q52 (N, E, A, B, V, z) ⟨rfl, hZ⟩
  try dsimp only [Option.toList, List.cons_append, List.nil_append, s1C, s2C, dlC, kyC, Nat.beq, lkC, rcd, rno, rsw]
  refine ⟨fun h53 => ?_, fun h53 => ?_⟩
  · have g53 := (eqI (x := c52) (y := p1) h53 : (c52 : Int32).toInt = (p1 : Int32).toInt)
    refine hB _ _ _ _ _ (fun m54 hm54 => ?_)
    dsimp only [ucgo, ucwp, ucsC, uqC, uoC, ctC, rfd, KX7_takes, KX7_takes_0, KX7_takes_8, KX7_takes_10, lkC, s1C, s2C, dlC, kyC, Nat.beq, Nat.ble, rcd, rno, rsw, Nat.reduceAdd, Nat.reduceBEq, Nat.reduceDiv, List.drop, List.take, List.reverse, List.reverseAux, Int.toNat, Option.toList, List.append, List.cons_append, List.nil_append]
    intro w55 τ55 o55 q55
    obtain ⟨rfl, hZ55, hf55⟩ := q55 (N, E, A, B, V, z) ⟨rfl, hZ, (hft (by omega))⟩
    have hF55 := FzC.tr (FzC.rf (n := cnC σ) (m := xnM z) (E := E) (A := A) (B := B) (V := V) (z := z) (σ := σ)) (FzC.mo hf55 (Nat.le_refl (cnC σ)) ((FzC.rf (n := cnC σ) (m := xnM z) (E := E) (A := A) (B := B) (V := V) (z := z) (σ := σ))).2.2.1.1.1)
    have hle55 : cnC σ ≤ cnC τ55 := Nat.le_trans (Nat.le_refl (cnC σ)) (hf55).1
    try dsimp only [Option.toList, List.cons_append, List.nil_append, s1C, s2C, dlC, kyC, Nat.beq, lkC, rcd, rno, rsw]
    have c56 : (Int32.ofInt 1).toInt = 1 := by decide
    try dsimp only [Qz_takes]
    exact Or.inl ⟨_, rfl, by omega, by omega, hZ55, hF55⟩
  · have g53 := (neI (x := c52) (y := p1) h53 : ¬ (c52 : Int32).toInt = (p1 : Int32).toInt)
    refine hB _ _ _ _ _ (fun m57 hm57 => ?_)
    dsimp only [ucgo, ucwp, ucsC, uqC, uoC, ctC, rfd, KX7_takes, KX7_takes_0, KX7_takes_8, KX7_takes_10, lkC, s1C, s2C, dlC, kyC, Nat.beq, Nat.ble, rcd, rno, rsw, Nat.reduceAdd, Nat.reduceBEq, Nat.reduceDiv, List.drop, List.take, List.reverse, List.reverseAux, Int.toNat, Option.toList, List.append, List.cons_append, List.nil_append]
    have c58 : (Int32.ofInt 0).toInt = 0 := by decide
    try dsimp only [Qz_takes]
    exact Or.inr ⟨_, rfl, by omega, by omega, rfl⟩
theorem wz_takes : ∀ (L : Nat) (As : List AvC) (σ : CsC) (w : Option AvC) (τ : CsC), EvF L 130 As σ w τ → Uz_takes As σ w τ := by
  intro L
  cases L with
  | zero => exact fun _ _ _ _ h => h.elim
  | succ L => exact fun As σ w τ h y hy => EvF.us (cs := [125, 128]) (pz_takes y) rfl (List.forall_mem_cons.2 ⟨wz_code L, List.forall_mem_cons.2 ⟨wz_accept L, fun _ h => absurd h List.not_mem_nil⟩⟩) h hy
abbrev Pz_isTooDeep : ((Int → Int) × (Nat → Nat) × (Nat → Nat) × (Nat → Nat) × (Nat → Nat) × ZS) → CpC := fun y As σ => match y with
  | (N, E, A, B, V, z) => ∃ (p1 : Int32), As = [.inr (.inr (some (E 0))), .inl p1] ∧ (ZC N E A B V σ z) ∧ (p1.toInt ≤ 20)
abbrev Qz_isTooDeep : ((Int → Int) × (Nat → Nat) × (Nat → Nat) × (Nat → Nat) × (Nat → Nat) × ZS) → CqC := fun y As σ w τ => match y, As with
  | (N, E, A, B, V, z), [_, .inl p1] => ∃ r, w = some (.inl r) ∧ r.toInt = 0 ∧ σ = τ
  | _, _ => True
abbrev Uz_isTooDeep : CqC := fun As σ w τ => ∀ y, Pz_isTooDeep y As σ → Qz_isTooDeep y As σ w τ
set_option maxHeartbeats 4000000 in
theorem pz_isTooDeep (y : (Int → Int) × (Nat → Nat) × (Nat → Nat) × (Nat → Nat) × (Nat → Nat) × ZS) : PbC KX7_isTooDeep [(127, TrP, EqC 127)] [] (fun As σ => Pz_isTooDeep y As σ ∧ cnC σ ≤ 1000000 ∧ ∃ w τ, uqC quL 131 As σ w τ) (Qz_isTooDeep y) := by
  obtain ⟨N, E, A, B, V, z⟩ := y
  rintro As σ ⟨⟨p1, rfl, hZ, hp1⟩, hcn, _, _, hQ⟩ K hB hW n_
  have hH : HI0 σ ∧ TyC σ (E 0) 8 := hQ
  have hat := hZ.at0 hH
  change K n_ 0 [(0, .inr (.inr (some (E 0)))), (1, .inl p1)] [] σ
  refine hB _ _ _ _ _ (fun m51 hm51 => ?_)
  dsimp only [ucgo, ucwp, ucsC, uqC, uoC, ctC, rfd, KX7_isTooDeep, KX7_isTooDeep_0, KX7_isTooDeep_6, KX7_isTooDeep_11, KX7_isTooDeep_17, KX7_isTooDeep_21, KX7_isTooDeep_22, lkC, s1C, s2C, dlC, kyC, Nat.beq, Nat.ble, rcd, rno, rsw, Nat.reduceAdd, Nat.reduceBEq, Nat.reduceDiv, List.drop, List.take, List.reverse, List.reverseAux, Int.toNat, Option.toList, List.append, List.cons_append, List.nil_append]
  have c52 : (Int32.ofInt 20).toInt = 20 := by decide
  refine ⟨fun h53 => ?_, fun h53 => ?_⟩
  · have g53 := leI (x := p1) (y := (Int32.ofInt 20)) h53
    refine hB _ _ _ _ _ (fun m54 hm54 => ?_)
    dsimp only [ucgo, ucwp, ucsC, uqC, uoC, ctC, rfd, KX7_isTooDeep, KX7_isTooDeep_0, KX7_isTooDeep_6, KX7_isTooDeep_11, KX7_isTooDeep_17, KX7_isTooDeep_21, KX7_isTooDeep_22, lkC, s1C, s2C, dlC, kyC, Nat.beq, Nat.ble, rcd, rno, rsw, Nat.reduceAdd, Nat.reduceBEq, Nat.reduceDiv, List.drop, List.take, List.reverse, List.reverseAux, Int.toNat, Option.toList, List.append, List.cons_append, List.nil_append]
    have c55 : (Int32.ofInt 20).toInt = 20 := by decide
    refine ⟨fun h56 => ?_, fun h56 => ?_⟩
    · have g56 := leI (x := p1) (y := (Int32.ofInt 20)) h56
      refine hB _ _ _ _ _ (fun m57 hm57 => ?_)
      dsimp only [ucgo, ucwp, ucsC, uqC, uoC, ctC, rfd, KX7_isTooDeep, KX7_isTooDeep_0, KX7_isTooDeep_6, KX7_isTooDeep_11, KX7_isTooDeep_17, KX7_isTooDeep_21, KX7_isTooDeep_22, lkC, s1C, s2C, dlC, kyC, Nat.beq, Nat.ble, rcd, rno, rsw, Nat.reduceAdd, Nat.reduceBEq, Nat.reduceDiv, List.drop, List.take, List.reverse, List.reverseAux, Int.toNat, Option.toList, List.append, List.cons_append, List.nil_append]
      have c58 : (Int32.ofInt 0).toInt = 0 := by decide
      refine hB _ _ _ _ _ (fun m59 hm59 => ?_)
      dsimp only [ucgo, ucwp, ucsC, uqC, uoC, ctC, rfd, KX7_isTooDeep, KX7_isTooDeep_0, KX7_isTooDeep_6, KX7_isTooDeep_11, KX7_isTooDeep_17, KX7_isTooDeep_21, KX7_isTooDeep_22, lkC, s1C, s2C, dlC, kyC, Nat.beq, Nat.ble, rcd, rno, rsw, Nat.reduceAdd, Nat.reduceBEq, Nat.reduceDiv, List.drop, List.take, List.reverse, List.reverseAux, Int.toNat, Option.toList, List.append, List.cons_append, List.nil_append]
      try dsimp only [Qz_isTooDeep]
      exact ⟨_, rfl, by omega, rfl⟩
    · have g56 := nleI (x := p1) (y := (Int32.ofInt 20)) h56
      exfalso
      omega
  · have g53 := nleI (x := p1) (y := (Int32.ofInt 20)) h53
    exfalso
    omega
theorem wz_isTooDeep : ∀ (L : Nat) (As : List AvC) (σ : CsC) (w : Option AvC) (τ : CsC), EvF L 131 As σ w τ → Uz_isTooDeep As σ w τ := by
  intro L
  cases L with
  | zero => exact fun _ _ _ _ h => h.elim
  | succ L => exact fun As σ w τ h y hy => EvF.us (cs := [127]) (pz_isTooDeep y) rfl (List.forall_mem_cons.2 ⟨fun _ _ _ _ _ => trivial, fun _ h => absurd h List.not_mem_nil⟩) h hy
abbrev Pz_isType : ((Int → Int) × (Nat → Nat) × (Nat → Nat) × (Nat → Nat) × (Nat → Nat) × ZS) → CpC := fun y As σ => match y with
  | (N, E, A, B, V, z) => ∃ (p0 : Int32), As = [.inl p0]
abbrev Qz_isType : ((Int → Int) × (Nat → Nat) × (Nat → Nat) × (Nat → Nat) × (Nat → Nat) × ZS) → CqC := fun y As σ w τ => match y, As with
  | (N, E, A, B, V, z), [.inl p0] => (∃ r, w = some (.inl r) ∧ r.toInt = 1 ∧ (50 ≤ p0.toInt ∧ p0.toInt ≤ 54) ∧ σ = τ) ∨ (∃ r, w = some (.inl r) ∧ r.toInt = 0 ∧ ¬ (50 ≤ p0.toInt ∧ p0.toInt ≤ 54) ∧ σ = τ)
  | _, _ => True
abbrev Uz_isType : CqC := fun As σ w τ => ∀ y, Pz_isType y As σ → Qz_isType y As σ w τ
set_option maxHeartbeats 4000000 in
theorem pz_isType (y : (Int → Int) × (Nat → Nat) × (Nat → Nat) × (Nat → Nat) × (Nat → Nat) × ZS) : PbC KX7_isType [] [] (fun As σ => Pz_isType y As σ ∧ cnC σ ≤ 1000000 ∧ ∃ w τ, uqC quL 132 As σ w τ) (Qz_isType y) := by
  obtain ⟨N, E, A, B, V, z⟩ := y
  rintro As σ ⟨⟨p0, rfl⟩, hcn, _, _, hQ⟩ K hB hW n_
  change K n_ 0 [(0, .inl p0)] [] σ
  refine hB _ _ _ _ _ (fun m51 hm51 => ?_)
  dsimp only [ucgo, ucwp, ucsC, uqC, uoC, ctC, rfd, KX7_isType, KX7_isType_0, KX7_isType_6, KX7_isType_12, KX7_isType_16, KX7_isType_17, lkC, s1C, s2C, dlC, kyC, Nat.beq, Nat.ble, rcd, rno, rsw, Nat.reduceAdd, Nat.reduceBEq, Nat.reduceDiv, List.drop, List.take, List.reverse, List.reverseAux, Int.toNat, Option.toList, List.append, List.cons_append, List.nil_append]
  have c52 : (Int32.ofInt 50).toInt = 50 := by decide
  refine ⟨fun h53 => ?_, fun h53 => ?_⟩
  · have g53 := ltI (x := p0) (y := (Int32.ofInt 50)) h53
    refine hB _ _ _ _ _ (fun m54 hm54 => ?_)
    dsimp only [ucgo, ucwp, ucsC, uqC, uoC, ctC, rfd, KX7_isType, KX7_isType_0, KX7_isType_6, KX7_isType_12, KX7_isType_16, KX7_isType_17, lkC, s1C, s2C, dlC, kyC, Nat.beq, Nat.ble, rcd, rno, rsw, Nat.reduceAdd, Nat.reduceBEq, Nat.reduceDiv, List.drop, List.take, List.reverse, List.reverseAux, Int.toNat, Option.toList, List.append, List.cons_append, List.nil_append]
    have c55 : (Int32.ofInt 0).toInt = 0 := by decide
    refine hB _ _ _ _ _ (fun m56 hm56 => ?_)
    dsimp only [ucgo, ucwp, ucsC, uqC, uoC, ctC, rfd, KX7_isType, KX7_isType_0, KX7_isType_6, KX7_isType_12, KX7_isType_16, KX7_isType_17, lkC, s1C, s2C, dlC, kyC, Nat.beq, Nat.ble, rcd, rno, rsw, Nat.reduceAdd, Nat.reduceBEq, Nat.reduceDiv, List.drop, List.take, List.reverse, List.reverseAux, Int.toNat, Option.toList, List.append, List.cons_append, List.nil_append]
    try dsimp only [Qz_isType]
    exact Or.inr ⟨_, rfl, by omega, by omega, rfl⟩
  · have g53 := nltI (x := p0) (y := (Int32.ofInt 50)) h53
    refine hB _ _ _ _ _ (fun m57 hm57 => ?_)
    dsimp only [ucgo, ucwp, ucsC, uqC, uoC, ctC, rfd, KX7_isType, KX7_isType_0, KX7_isType_6, KX7_isType_12, KX7_isType_16, KX7_isType_17, lkC, s1C, s2C, dlC, kyC, Nat.beq, Nat.ble, rcd, rno, rsw, Nat.reduceAdd, Nat.reduceBEq, Nat.reduceDiv, List.drop, List.take, List.reverse, List.reverseAux, Int.toNat, Option.toList, List.append, List.cons_append, List.nil_append]
    have c58 : (Int32.ofInt 55).toInt = 55 := by decide
    refine ⟨fun h59 => ?_, fun h59 => ?_⟩
    · have g59 := leI (x := (Int32.ofInt 55)) (y := p0) h59
      refine hB _ _ _ _ _ (fun m60 hm60 => ?_)
      dsimp only [ucgo, ucwp, ucsC, uqC, uoC, ctC, rfd, KX7_isType, KX7_isType_0, KX7_isType_6, KX7_isType_12, KX7_isType_16, KX7_isType_17, lkC, s1C, s2C, dlC, kyC, Nat.beq, Nat.ble, rcd, rno, rsw, Nat.reduceAdd, Nat.reduceBEq, Nat.reduceDiv, List.drop, List.take, List.reverse, List.reverseAux, Int.toNat, Option.toList, List.append, List.cons_append, List.nil_append]
      have c61 : (Int32.ofInt 0).toInt = 0 := by decide
      refine hB _ _ _ _ _ (fun m62 hm62 => ?_)
      dsimp only [ucgo, ucwp, ucsC, uqC, uoC, ctC, rfd, KX7_isType, KX7_isType_0, KX7_isType_6, KX7_isType_12, KX7_isType_16, KX7_isType_17, lkC, s1C, s2C, dlC, kyC, Nat.beq, Nat.ble, rcd, rno, rsw, Nat.reduceAdd, Nat.reduceBEq, Nat.reduceDiv, List.drop, List.take, List.reverse, List.reverseAux, Int.toNat, Option.toList, List.append, List.cons_append, List.nil_append]
      try dsimp only [Qz_isType]
      exact Or.inr ⟨_, rfl, by omega, by omega, rfl⟩
    · have g59 := nleI (x := (Int32.ofInt 55)) (y := p0) h59
      refine hB _ _ _ _ _ (fun m63 hm63 => ?_)
      dsimp only [ucgo, ucwp, ucsC, uqC, uoC, ctC, rfd, KX7_isType, KX7_isType_0, KX7_isType_6, KX7_isType_12, KX7_isType_16, KX7_isType_17, lkC, s1C, s2C, dlC, kyC, Nat.beq, Nat.ble, rcd, rno, rsw, Nat.reduceAdd, Nat.reduceBEq, Nat.reduceDiv, List.drop, List.take, List.reverse, List.reverseAux, Int.toNat, Option.toList, List.append, List.cons_append, List.nil_append]
      have c64 : (Int32.ofInt 1).toInt = 1 := by decide
      refine hB _ _ _ _ _ (fun m65 hm65 => ?_)
      dsimp only [ucgo, ucwp, ucsC, uqC, uoC, ctC, rfd, KX7_isType, KX7_isType_0, KX7_isType_6, KX7_isType_12, KX7_isType_16, KX7_isType_17, lkC, s1C, s2C, dlC, kyC, Nat.beq, Nat.ble, rcd, rno, rsw, Nat.reduceAdd, Nat.reduceBEq, Nat.reduceDiv, List.drop, List.take, List.reverse, List.reverseAux, Int.toNat, Option.toList, List.append, List.cons_append, List.nil_append]
      try dsimp only [Qz_isType]
      exact Or.inl ⟨_, rfl, by omega, by omega, rfl⟩
theorem wz_isType : ∀ (L : Nat) (As : List AvC) (σ : CsC) (w : Option AvC) (τ : CsC), EvF L 132 As σ w τ → Uz_isType As σ w τ := by
  intro L
  cases L with
  | zero => exact fun _ _ _ _ h => h.elim
  | succ L => exact fun As σ w τ h y hy => EvF.us (cs := []) (pz_isType y) rfl (fun _ h => absurd h List.not_mem_nil) h hy
abbrev Pz_isAssign : ((Int → Int) × (Nat → Nat) × (Nat → Nat) × (Nat → Nat) × (Nat → Nat) × ZS) → CpC := fun y As σ => match y with
  | (N, E, A, B, V, z) => ∃ (p0 : Int32), As = [.inl p0]
abbrev Qz_isAssign : ((Int → Int) × (Nat → Nat) × (Nat → Nat) × (Nat → Nat) × (Nat → Nat) × ZS) → CqC := fun y As σ w τ => match y, As with
  | (N, E, A, B, V, z), [.inl p0] => (∃ r, w = some (.inl r) ∧ r.toInt = 1 ∧ (8 ≤ p0.toInt ∧ p0.toInt ≤ 19) ∧ σ = τ) ∨ (∃ r, w = some (.inl r) ∧ r.toInt = 0 ∧ ¬ (8 ≤ p0.toInt ∧ p0.toInt ≤ 19) ∧ σ = τ)
  | _, _ => True
abbrev Uz_isAssign : CqC := fun As σ w τ => ∀ y, Pz_isAssign y As σ → Qz_isAssign y As σ w τ
set_option maxHeartbeats 4000000 in
theorem pz_isAssign (y : (Int → Int) × (Nat → Nat) × (Nat → Nat) × (Nat → Nat) × (Nat → Nat) × ZS) : PbC KX7_isAssign [] [] (fun As σ => Pz_isAssign y As σ ∧ cnC σ ≤ 1000000 ∧ ∃ w τ, uqC quL 133 As σ w τ) (Qz_isAssign y) := by
  obtain ⟨N, E, A, B, V, z⟩ := y
  rintro As σ ⟨⟨p0, rfl⟩, hcn, _, _, hQ⟩ K hB hW n_
  change K n_ 0 [(0, .inl p0)] [] σ
  refine hB _ _ _ _ _ (fun m51 hm51 => ?_)
  dsimp only [ucgo, ucwp, ucsC, uqC, uoC, ctC, rfd, KX7_isAssign, KX7_isAssign_0, KX7_isAssign_6, KX7_isAssign_12, KX7_isAssign_16, KX7_isAssign_17, lkC, s1C, s2C, dlC, kyC, Nat.beq, Nat.ble, rcd, rno, rsw, Nat.reduceAdd, Nat.reduceBEq, Nat.reduceDiv, List.drop, List.take, List.reverse, List.reverseAux, Int.toNat, Option.toList, List.append, List.cons_append, List.nil_append]
  have c52 : (Int32.ofInt 8).toInt = 8 := by decide
  refine ⟨fun h53 => ?_, fun h53 => ?_⟩
  · have g53 := ltI (x := p0) (y := (Int32.ofInt 8)) h53
    refine hB _ _ _ _ _ (fun m54 hm54 => ?_)
    dsimp only [ucgo, ucwp, ucsC, uqC, uoC, ctC, rfd, KX7_isAssign, KX7_isAssign_0, KX7_isAssign_6, KX7_isAssign_12, KX7_isAssign_16, KX7_isAssign_17, lkC, s1C, s2C, dlC, kyC, Nat.beq, Nat.ble, rcd, rno, rsw, Nat.reduceAdd, Nat.reduceBEq, Nat.reduceDiv, List.drop, List.take, List.reverse, List.reverseAux, Int.toNat, Option.toList, List.append, List.cons_append, List.nil_append]
    have c55 : (Int32.ofInt 0).toInt = 0 := by decide
    refine hB _ _ _ _ _ (fun m56 hm56 => ?_)
    dsimp only [ucgo, ucwp, ucsC, uqC, uoC, ctC, rfd, KX7_isAssign, KX7_isAssign_0, KX7_isAssign_6, KX7_isAssign_12, KX7_isAssign_16, KX7_isAssign_17, lkC, s1C, s2C, dlC, kyC, Nat.beq, Nat.ble, rcd, rno, rsw, Nat.reduceAdd, Nat.reduceBEq, Nat.reduceDiv, List.drop, List.take, List.reverse, List.reverseAux, Int.toNat, Option.toList, List.append, List.cons_append, List.nil_append]
    try dsimp only [Qz_isAssign]
    exact Or.inr ⟨_, rfl, by omega, by omega, rfl⟩
  · have g53 := nltI (x := p0) (y := (Int32.ofInt 8)) h53
    refine hB _ _ _ _ _ (fun m57 hm57 => ?_)
    dsimp only [ucgo, ucwp, ucsC, uqC, uoC, ctC, rfd, KX7_isAssign, KX7_isAssign_0, KX7_isAssign_6, KX7_isAssign_12, KX7_isAssign_16, KX7_isAssign_17, lkC, s1C, s2C, dlC, kyC, Nat.beq, Nat.ble, rcd, rno, rsw, Nat.reduceAdd, Nat.reduceBEq, Nat.reduceDiv, List.drop, List.take, List.reverse, List.reverseAux, Int.toNat, Option.toList, List.append, List.cons_append, List.nil_append]
    have c58 : (Int32.ofInt 19).toInt = 19 := by decide
    refine ⟨fun h59 => ?_, fun h59 => ?_⟩
    · have g59 := ltI (x := (Int32.ofInt 19)) (y := p0) h59
      refine hB _ _ _ _ _ (fun m60 hm60 => ?_)
      dsimp only [ucgo, ucwp, ucsC, uqC, uoC, ctC, rfd, KX7_isAssign, KX7_isAssign_0, KX7_isAssign_6, KX7_isAssign_12, KX7_isAssign_16, KX7_isAssign_17, lkC, s1C, s2C, dlC, kyC, Nat.beq, Nat.ble, rcd, rno, rsw, Nat.reduceAdd, Nat.reduceBEq, Nat.reduceDiv, List.drop, List.take, List.reverse, List.reverseAux, Int.toNat, Option.toList, List.append, List.cons_append, List.nil_append]
      have c61 : (Int32.ofInt 0).toInt = 0 := by decide
      refine hB _ _ _ _ _ (fun m62 hm62 => ?_)
      dsimp only [ucgo, ucwp, ucsC, uqC, uoC, ctC, rfd, KX7_isAssign, KX7_isAssign_0, KX7_isAssign_6, KX7_isAssign_12, KX7_isAssign_16, KX7_isAssign_17, lkC, s1C, s2C, dlC, kyC, Nat.beq, Nat.ble, rcd, rno, rsw, Nat.reduceAdd, Nat.reduceBEq, Nat.reduceDiv, List.drop, List.take, List.reverse, List.reverseAux, Int.toNat, Option.toList, List.append, List.cons_append, List.nil_append]
      try dsimp only [Qz_isAssign]
      exact Or.inr ⟨_, rfl, by omega, by omega, rfl⟩
    · have g59 := nltI (x := (Int32.ofInt 19)) (y := p0) h59
      refine hB _ _ _ _ _ (fun m63 hm63 => ?_)
      dsimp only [ucgo, ucwp, ucsC, uqC, uoC, ctC, rfd, KX7_isAssign, KX7_isAssign_0, KX7_isAssign_6, KX7_isAssign_12, KX7_isAssign_16, KX7_isAssign_17, lkC, s1C, s2C, dlC, kyC, Nat.beq, Nat.ble, rcd, rno, rsw, Nat.reduceAdd, Nat.reduceBEq, Nat.reduceDiv, List.drop, List.take, List.reverse, List.reverseAux, Int.toNat, Option.toList, List.append, List.cons_append, List.nil_append]
      have c64 : (Int32.ofInt 1).toInt = 1 := by decide
      refine hB _ _ _ _ _ (fun m65 hm65 => ?_)
      dsimp only [ucgo, ucwp, ucsC, uqC, uoC, ctC, rfd, KX7_isAssign, KX7_isAssign_0, KX7_isAssign_6, KX7_isAssign_12, KX7_isAssign_16, KX7_isAssign_17, lkC, s1C, s2C, dlC, kyC, Nat.beq, Nat.ble, rcd, rno, rsw, Nat.reduceAdd, Nat.reduceBEq, Nat.reduceDiv, List.drop, List.take, List.reverse, List.reverseAux, Int.toNat, Option.toList, List.append, List.cons_append, List.nil_append]
      try dsimp only [Qz_isAssign]
      exact Or.inl ⟨_, rfl, by omega, by omega, rfl⟩
theorem wz_isAssign : ∀ (L : Nat) (As : List AvC) (σ : CsC) (w : Option AvC) (τ : CsC), EvF L 133 As σ w τ → Uz_isAssign As σ w τ := by
  intro L
  cases L with
  | zero => exact fun _ _ _ _ h => h.elim
  | succ L => exact fun As σ w τ h y hy => EvF.us (cs := []) (pz_isAssign y) rfl (fun _ h => absurd h List.not_mem_nil) h hy
abbrev Pz_readType : ((Int → Int) × (Nat → Nat) × (Nat → Nat) × (Nat → Nat) × (Nat → Nat) × ZS) → CpC := fun y As σ => match y with
  | (N, E, A, B, V, z) => As = [.inr (.inr (some (E 0)))] ∧ (ZC N E A B V σ z) ∧ (zFt (typM z).1 = 0)
abbrev Qz_readType : ((Int → Int) × (Nat → Nat) × (Nat → Nat) × (Nat → Nat) × (Nat → Nat) × ZS) → CqC := fun y As σ w τ => match y, As with
  | (N, E, A, B, V, z), [_] => ∃ r, w = some (.inl r) ∧ r.toInt = codY z.1 - 50 ∧ (50 ≤ codY z.1 ∧ codY z.1 ≤ 54) ∧ ZC N E A B V τ (typM z) ∧ FzC (cnC σ) (xnM z) E A A B B V V z (typM z) σ τ
  | _, _ => True
abbrev Uz_readType : CqC := fun As σ w τ => ∀ y, Pz_readType y As σ → Qz_readType y As σ w τ
set_option maxHeartbeats 4000000 in
theorem pz_readType (y : (Int → Int) × (Nat → Nat) × (Nat → Nat) × (Nat → Nat) × (Nat → Nat) × ZS) : PbC KX7_readType [(125, TrP, EqC 125), (132, TrP, EqC 132), (127, TrP, EqC 127), (128, TrP, EqC 128)] [(125, Uz_code), (132, Uz_isType), (128, Uz_accept)] (fun As σ => Pz_readType y As σ ∧ cnC σ ≤ 1000000 ∧ ∃ w τ, uqC quL 136 As σ w τ) (Qz_readType y) := by
  obtain ⟨N, E, A, B, V, z⟩ := y
  rintro As σ ⟨⟨rfl, hZ, hft⟩, hcn, _, _, hQ⟩ K hB hW n_
  have hH : HI0 σ ∧ TyC σ (E 0) 8 := hQ
  have hat := hZ.at0 hH
  have hty := typ_nz hft
  have hfa : zFt (accM z).1 = 0 := by show zFt (accY z.1) = 0; rw [← hty.2]; exact hft
  change K n_ 0 [(0, .inr (.inr (some (E 0))))] [] σ
  refine hB _ _ _ _ _ (fun m51 hm51 => ?_)
  dsimp only [ucgo, ucwp, ucsC, uqC, uoC, ctC, rfd, KX7_readType, KX7_readType_0, KX7_readType_18, KX7_readType_25, lkC, s1C, s2C, dlC, kyC, Nat.beq, Nat.ble, rcd, rno, rsw, Nat.reduceAdd, Nat.reduceBEq, Nat.reduceDiv, List.drop, List.take, List.reverse, List.reverseAux, Int.toNat, Option.toList, List.append, List.cons_append, List.nil_append]
  intro w52 τ52 o52 q52
  obtain ⟨c52, rfl, hc52, rfl⟩ := q52 (N, E, A, B, V, z) ⟨rfl, hZ⟩
  try dsimp only [Option.toList, List.cons_append, List.nil_append, s1C, s2C, dlC, kyC, Nat.beq, lkC, rcd, rno, rsw]
  have c53 : (Int32.ofInt 50).toInt = 50 := by decide
  have u54 := tiC c52
  have a54 : (c52 - (Int32.ofInt 50)).toInt = codY z.1 - 50 := subC (by omega) (by omega) (by omega)
  intro w55 τ55 o55 q55
  obtain ⟨c55, rfl, hc55, rfl⟩ := q55 (N, E, A, B, V, z) ⟨rfl, hZ⟩
  try dsimp only [Option.toList, List.cons_append, List.nil_append, s1C, s2C, dlC, kyC, Nat.beq, lkC, rcd, rno, rsw]
  intro w56 τ56 o56 q56
  have qq56 := q56 (N, E, A, B, V, z) ⟨_, rfl⟩
  obtain ⟨r56, rfl, hr56, rfl⟩ : ∃ r, w56 = some (.inl r) ∧ ((r.toInt = 1 ∧ (50 ≤ (c55 : Int32).toInt ∧ (c55 : Int32).toInt ≤ 54)) ∨ (r.toInt = 0 ∧ ¬ (50 ≤ (c55 : Int32).toInt ∧ (c55 : Int32).toInt ≤ 54))) ∧ σ = τ56 := by
    rcases qq56 with ⟨r, h1, h2, h3, h4⟩ | ⟨r, h1, h2, h3, h4⟩
    · exact ⟨r, h1, Or.inl ⟨h2, h3⟩, h4⟩
    · exact ⟨r, h1, Or.inr ⟨h2, h3⟩, h4⟩
  try dsimp only [Option.toList, List.cons_append, List.nil_append, s1C, s2C, dlC, kyC, Nat.beq, lkC, rcd, rno, rsw]
  refine ⟨fun h57 => ?_, fun h57 => ?_⟩
  · have g57 := (neI (x := r56) (y := 0) h57 : ¬ (r56 : Int32).toInt = (0 : Int32).toInt)
    have z0_ : (0 : Int32).toInt = 0 := rfl
    refine hB _ _ _ _ _ (fun m58 hm58 => ?_)
    dsimp only [ucgo, ucwp, ucsC, uqC, uoC, ctC, rfd, KX7_readType, KX7_readType_0, KX7_readType_18, KX7_readType_25, lkC, s1C, s2C, dlC, kyC, Nat.beq, Nat.ble, rcd, rno, rsw, Nat.reduceAdd, Nat.reduceBEq, Nat.reduceDiv, List.drop, List.take, List.reverse, List.reverseAux, Int.toNat, Option.toList, List.append, List.cons_append, List.nil_append]
    intro w59 τ59 o59 q59
    obtain ⟨rfl, hZ59, hf59⟩ := q59 (N, E, A, B, V, z) ⟨rfl, hZ, hfa⟩
    have hF59 := FzC.tr (FzC.rf (n := cnC σ) (m := xnM z) (E := E) (A := A) (B := B) (V := V) (z := z) (σ := σ)) (FzC.mo hf59 (Nat.le_refl (cnC σ)) ((FzC.rf (n := cnC σ) (m := xnM z) (E := E) (A := A) (B := B) (V := V) (z := z) (σ := σ))).2.2.1.1.1)
    have hle59 : cnC σ ≤ cnC τ59 := Nat.le_trans (Nat.le_refl (cnC σ)) (hf59).1
    try dsimp only [Option.toList, List.cons_append, List.nil_append, s1C, s2C, dlC, kyC, Nat.beq, lkC, rcd, rno, rsw]
    try dsimp only [Qz_readType]
    have ez : typM z = accM z := by show (typY z.1, z.2) = (accY z.1, z.2); rw [hty.2]
    rw [ez]
    exact ⟨_, rfl, by omega, hty.1, hZ59, hF59⟩
  · have g57 := (eqI (x := r56) (y := 0) h57 : (r56 : Int32).toInt = (0 : Int32).toInt)
    have z0_ : (0 : Int32).toInt = 0 := rfl
    exfalso
    omega
theorem wz_readType : ∀ (L : Nat) (As : List AvC) (σ : CsC) (w : Option AvC) (τ : CsC), EvF L 136 As σ w τ → Uz_readType As σ w τ := by
  intro L
  cases L with
  | zero => exact fun _ _ _ _ h => h.elim
  | succ L => exact fun As σ w τ h y hy => EvF.us (cs := [125, 132, 127, 128]) (pz_readType y) rfl (List.forall_mem_cons.2 ⟨wz_code L, List.forall_mem_cons.2 ⟨wz_isType L, List.forall_mem_cons.2 ⟨fun _ _ _ _ _ => trivial, List.forall_mem_cons.2 ⟨wz_accept L, fun _ h => absurd h List.not_mem_nil⟩⟩⟩⟩) h hy
