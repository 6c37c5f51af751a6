/-! the class's judge: a whole program: what stands -/
theorem xu_we {σ τ : CsC} (w : WeC σ τ) : XuC [] σ τ 0 := ⟨fun a k _ => ⟨by rw [we_i w], by rw [we_l w], by rw [we_r w]⟩, ⟨we_ei w, we_el w, we_er w⟩, we_c w⟩
theorem StC.we {N : Int → Int} {E A B V : Nat → Nat} {σ τ : CsC} {z : ZS} {ms : MfT} {nm : Nat} (h : StC N E A B V σ z ms nm) (w : WeC σ τ) : StC N E A B V τ z ms nm := by
  obtain ⟨⟨h1, h2, h3⟩, ⟨h4, h5, h6⟩, h7, h8⟩ := h
  refine ⟨⟨h1.we w, h2, h3⟩, ⟨?_, by rw [we_i w]; exact h5, ?_⟩, h7.xu (xu_we w) rfl, fun i m r hm hr => h8 i m r hm (by rw [we_r w] at hr; exact hr)⟩
  · unfold PjC
    rw [we_r w, we_c w]
    exact h4
  · unfold TnC
    rw [we_r w]
    exact h6
/-- as they are read -/
theorem JxC.z {N : Int → Int} {E A B V : Nat → Nat} {σ : CsC} {z : ZS} {ms : MfT} {nm : Nat} (h : StC N E A B V σ z ms nm) : JxC E A V z σ σ (t0T N (fun i => xth z i)) 0 := by
  refine ⟨⟨fun _ _ _ => ⟨rfl, rfl, rfl⟩, trivial, ⟨fun _ _ => rfl, rfl, rfl⟩, rfl, fun _ _ _ => rfl, fun _ _ _ _ => rfl⟩, fun k hk => ?_, fun k hk => absurd hk (Nat.not_lt_zero _), fun v hv => ?_, fun j => rfl⟩
  · have q := (h.1.1.2.2.2.2.1.1 k hk).1.2.1
    refine ⟨q.1, q.2.1, ?_⟩
    show fLC σ (A k) 71 = Int64.ofInt (vaX N (xth z k))
    rw [← q.2.2, Int64.ofInt_toInt]
  · have q := (h.1.1.2.2.2.2.2.2.1 v hv).2.2.2.2.2
    refine ⟨?_, fun n => absurd rfl n⟩
    rw [q]
    rfl
/-- bounds: rows of lists, methods; the flow's object -/
def BdC (E : Nat → Nat) (σ : CsC) (ms : MfT) : Prop := (RoC σ (E 211)) ∧ (RoC σ (E 213)) ∧ (RoC σ (E 212)) ∧ (∀ i m, ms i = some m → MoE E i < cnC σ) ∧ (E 2 < cnC σ ∧ E 304 < cnC σ) ∧ fRC σ (E 3) 120 = some (E 4) ∧ E 4 < cnC σ
theorem SsC.of {N : Int → Int} {E A B V : Nat → Nat} {σ0 σ : CsC} {z : ZS} {ms : MfT} {nm : Nat} {T : TbT} {i : Nat} (hS : StC N E A B V σ0 z ms nm) (h : JxC E A V z σ0 σ T i) (hb : BdC E σ0 ms) : SsC E A B σ z T ms nm := by
  have hZ := hS.1.1
  have hf := h.1
  have hc := hf.2.2.2.1
  refine ⟨fun j hj => ⟨?_, ?_⟩, fun k hk => ⟨⟨h.2.1 k hk, ?_, fun q => ?_⟩, ?_⟩, ⟨h.ma hS, ⟨?_, ?_⟩, fun s0 r hr => ?_, fun i m hm => ?_⟩, ⟨?_, ?_⟩, ?_, fun s0 r hr => ?_⟩
  · have q := (hZ.2.2.2.2.2.1.1 j hj).1
    have e : ∀ k, [67, 68, 69, 70, 71, 335, 336].elem k = false → fIC σ (B j) k = fIC σ0 (B j) k ∧ fLC σ (B j) k = fLC σ0 (B j) k ∧ fRC σ (B j) k = fRC σ0 (B j) k := fun k hk => hf.1 (B j) k hk
    refine ⟨⟨?_, ?_, ?_, ?_⟩, ?_, ?_, ?_, ?_, ?_, ?_⟩
    · rw [(e 270 (by decide)).1]; exact q.1.1
    · rw [(e 271 (by decide)).1]; exact q.1.2.1
    · rw [(e 272 (by decide)).1]; exact q.1.2.2.1
    · rw [(e 273 (by decide)).2.2]; exact q.1.2.2.2
    · rw [(e 275 (by decide)).2.2]; exact q.2.2.1.1
    · rw [(e 276 (by decide)).2.2]; exact q.2.2.1.2.1
    · rw [(e 277 (by decide)).2.2]; exact q.2.2.1.2.2.1
    · rw [(e 278 (by decide)).2.2]; exact q.2.2.1.2.2.2.1
    · rw [(e 279 (by decide)).2.2]; exact q.2.2.1.2.2.2.2.1
    · rw [(e 280 (by decide)).1]; exact q.2.2.1.2.2.2.2.2
  · rw [hc]; exact (hZ.2.2.2.1.2.1.2 j hj).2
  · have q := (hZ.2.2.2.2.1.1 k hk).1
    refine ⟨?_, ?_, ?_, ?_, ?_⟩
    · rw [(hf.1 (A k) 60 (by decide)).1]; exact q.1.1.1
    · rw [(hf.1 (A k) 61 (by decide)).1]; exact q.1.1.2.1
    · rw [(hf.1 (A k) 63 (by decide)).1]; exact q.1.1.2.2.2
    · rw [(hf.1 (A k) 65 (by decide)).1]; exact q.2.2.2
    · rw [(hf.1 (A k) 66 (by decide)).1]; exact q.1.2.1.1
  · rw [hf.2.2.2.2.1 k hk q]; exact (hZ.2.2.2.2.1.1 k hk).1.1.2.1.2.1
  · rw [hc]; exact (hZ.2.2.2.1.1.2 k hk).2
  · rw [hc]; exact hZ.1.2.2.2.1.2.1
  · rw [hc]; exact hZ.1.2.2.2.2.1.1
  · rw [(hf.1 _ 1 (by decide)).2.2] at hr
    rw [(hf.1 _ 2 (by decide)).1] at s0
    rw [hc]; exact hb.1 s0 r hr
  · rw [hc]; exact hb.2.2.2.1 i m hm
  · rw [(hf.1 _ 213 (by decide)).2.2]; exact hZ.1.2.1.2.2.1
  · exact (hZ.2.2.2.1.1).cg (hf.1 _ 1 (by decide)).2.2 hf.2.2.1.2.2 (hf.1 _ 2 (by decide)).1 (Nat.le_of_eq hc.symm)
  · rw [hc]; exact hZ.1.2.2.2.2.1.2.2.1
  · rw [(hf.1 _ 1 (by decide)).2.2] at hr
    rw [(hf.1 _ 2 (by decide)).1] at s0
    rw [hc]; exact hb.2.1 s0 r hr
theorem NmC.of {N : Int → Int} {E A B V : Nat → Nat} {σ0 σ : CsC} {z : ZS} {ms : MfT} {nm : Nat} {T : TbT} {i : Nat} (hS : StC N E A B V σ0 z ms nm) (h : JxC E A V z σ0 σ T i) (hb : BdC E σ0 ms) : NmC N E σ := ⟨h.pj hS, ⟨(h.tn hS).1, by rw [h.1.2.2.2.1]; exact hb.2.2.2.2.1.1, by rw [h.1.2.2.2.1]; exact hb.2.2.2.2.1.2⟩, (h.tn hS).2⟩
theorem BdC.we {E : Nat → Nat} {σ τ : CsC} {ms : MfT} (h : BdC E σ ms) (w : WeC σ τ) : BdC E τ ms := by
  unfold BdC RoC
  rw [we_r w, we_c w, we_i w]
  exact h
theorem MbC.we {E B : Nat → Nat} {σ τ : CsC} {z : ZS} {ms : MfT} {nm : Nat} {J : Nat → Nat} {V1 : Nat → Int} (h : MbC E B σ z ms nm J V1) (w : WeC σ τ) : MbC E B τ z ms nm J V1 := by
  unfold MbC
  rw [we_r w, we_c w, we_i w]
  exact h
theorem MbC.jf {E A B : Nat → Nat} {σ τ : CsC} {z : ZS} {ms : MfT} {nm : Nat} {J : Nat → Nat} {V1 : Nat → Int} (h : MbC E B σ z ms nm J V1) (f : JfC E A z σ τ) : MbC E B τ z ms nm J V1 := fun k hk => by
  obtain ⟨h1, h2, h3, h4, h5⟩ := h k hk
  exact ⟨(f.1 _ 186 (by decide)).2.2.trans h1, h2, by rw [(f.1 _ 184 (by decide)).1]; exact h3, by rw [f.2.2.2.1]; exact h4, h5⟩
/-- where the judge finds what it goes over -/
def PqC (E : Nat → Nat) (σ : CsC) : Prop := (fRC σ (E 3) 121 = some (E 1) ∧ fRC σ (E 3) 120 = some (E 4)) ∧ (fRC σ (E 1) 211 = some (E 211) ∧ fRC σ (E 1) 212 = some (E 212) ∧ fRC σ (E 1) 213 = some (E 213) ∧ fRC σ (E 1) 214 = some (E 214)) ∧ E 3 < cnC σ ∧ E 1 < cnC σ
theorem PqC.fr {E : Nat → Nat} {M : List Nat} {σ τ : CsC} (h : PqC E σ) (f : FrE M σ τ) (hM : [999, 120, 121, 211, 212, 213, 214].all (fun k => !M.elem k) = true) : PqC E τ := by
  obtain ⟨⟨h1, h2⟩, ⟨h7, h8, h3, h4⟩, h5, h6⟩ := h
  refine ⟨⟨?_, ?_⟩, ⟨?_, ?_, ?_, ?_⟩, Nat.lt_of_lt_of_le h5 f.1, Nat.lt_of_lt_of_le h6 f.1⟩
  · rw [((f.2 (nel hM rfl) (E 3) h5).1 121 (nel hM rfl)).2.2]; exact h1
  · rw [((f.2 (nel hM rfl) (E 3) h5).1 120 (nel hM rfl)).2.2]; exact h2
  · rw [((f.2 (nel hM rfl) (E 1) h6).1 211 (nel hM rfl)).2.2]; exact h7
  · rw [((f.2 (nel hM rfl) (E 1) h6).1 212 (nel hM rfl)).2.2]; exact h8
  · rw [((f.2 (nel hM rfl) (E 1) h6).1 213 (nel hM rfl)).2.2]; exact h3
  · rw [((f.2 (nel hM rfl) (E 1) h6).1 214 (nel hM rfl)).2.2]; exact h4
theorem PqC.of {N : Int → Int} {E A B V : Nat → Nat} {σ : CsC} {z : ZS} {ms : MfT} {nm : Nat} (hS : StC N E A B V σ z ms nm) (hb : BdC E σ ms) : PqC E σ := ⟨⟨hS.2.1.1.1, hb.2.2.2.2.2.1⟩, hS.1.1.1.2.1, hS.2.1.1.2.2, hS.2.1.1.2.1⟩
theorem exq_s {P : Nat → Prop} {n : Nat} : (∃ k, k < n + 1 ∧ P k) ↔ (∃ k, k < n ∧ P k) ∨ P n := ⟨fun ⟨k, h1, h2⟩ => by
  by_cases c : k = n
  · exact Or.inr (c ▸ h2)
  · exact Or.inl ⟨k, by omega, h2⟩, fun h => h.elim (fun ⟨k, h1, h2⟩ => ⟨k, by omega, h2⟩) (fun h => ⟨n, by omega, h⟩)⟩
/-- which variables clash -/
def clS (z : ZS) (v : Nat) : Int := z.2.2.2.2.2.1 v
/-- a program without ERRORS: r0, g0: what stands at first -/
def r00 : RR := (fun _ => false, fun _ => false, fun _ => false, false)
def PokT (N : Int → Int) (z : ZS) (ms : MfT) (nm : Nat) (J : Nat → Nat) (V1 : Nat → Int) (f : Nat) (g0 : GzA) (T : TbT) : Prop := ((∀ k, k < nm → m1T ms k 12) ∧ ∀ v, v < (zVs z.1).length → clS z v = 0) ∧ tbT (CzT N z ms) (fun i => xth z i) (xnM z) = some T ∧ (∀ j, j < snM z → skT N z T ms j) ∧ (raL (rcF N z T f) z ms J nm 0 r00).2.2.2 = false ∧ (asL (asF N z T f) ms J V1 nm 0 g0).2.2.2.2.2.2.2 = false
/-- what the class's flow begins with -/
def G0T (z : ZS) (g : GzA) : Prop := (∀ j, j < snM z → g.2.2.1 j = allB ∧ g.2.2.2.1 j = allB) ∧ g.2.2.2.2.2.2.2 = false
def g00 : GzA := (fun _ => zerB, fun _ => zerB, fun _ => allB, fun _ => allB, (zerB, zerB, [], false))
theorem g00_0 {z : ZS} : G0T z g00 := ⟨fun _ _ => ⟨rfl, rfl⟩, rfl⟩
/-- judged: with an ERROR, or without one and all as it is told -/
def JdC (N : Int → Int) (E A B : Nat → Nat) (σ τ : CsC) (z : ZS) (ms : MfT) (nm : Nat) (J : Nat → Nat) (V1 : Nat → Int) (f : Nat) : Prop := ∃ g0, G0T z g0 ∧ ((erC E τ ∧ ∀ T, ¬ PokT N z ms nm J V1 f g0 T) ∨ (¬ erC E τ ∧ ∃ T, PokT N z ms nm J V1 f g0 T ∧ SsC E A B τ z T ms nm ∧ (∀ j, j < snM z → (fIC τ (B j) 282).toInt = bZI ((raL (rcF N z T f) z ms J nm 0 r00).1 j) ∧ fLC τ (B j) 285 = (asL (asF N z T f) ms J V1 nm 0 g0).1 j) ∧ ∀ q : Nat, (eIC τ (E 303) q).toInt = mnT z T.1 (fun i => (eIC σ (E 303) i).toInt) (xnM z) q))
theorem JdC.bad {N : Int → Int} {E A B : Nat → Nat} {σ τ : CsC} {z : ZS} {ms : MfT} {nm : Nat} {J : Nat → Nat} {V1 : Nat → Int} {f : Nat} (h : erC E τ) (hn : ∀ g0 T, ¬ PokT N z ms nm J V1 f g0 T) : JdC N E A B σ τ z ms nm J V1 f := ⟨g00, g00_0, Or.inl ⟨h, hn g00⟩⟩
