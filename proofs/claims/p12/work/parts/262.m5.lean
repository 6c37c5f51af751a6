/-! the reference's codes against an exp's records -/
def opkZ (x : XrZ) : Int := if x.1.1 ≤ 1 then 1 else if x.1.1 = 2 then 2 else if x.1.1 = 3 then 15 else if x.1.1 = 4 then 5 else if x.1.1 = 5 then 6 else if x.1.1 = 6 then (if x.2.1.1 = x.1.2.2.1 then 3 else 4) else if x.1.1 = 7 then (if x.1.2.1 = 21 then 9 else if x.1.2.1 = 20 then 11 else 7) else if x.1.1 = 8 then 14 else if x.1.1 = 9 then 17 else if x.1.1 = 10 then 18 else if x.1.1 = 11 then (if x.1.2.1 = 21 then 8 else 10) else if x.1.1 = 12 then 12 else if x.1.1 = 13 then 13 else if x.1.1 = 15 then 22 else 16
/-- a literal's TYPE -/
def ltyZ (c : Int) : Int := if c = 81 then 3 else if c = 82 then 4 else if c = 83 then 2 else 0
def cmZ (op a b tk f l : Int) (x : XrZ) : Prop :=
  op = opkZ x ∧ (x.1.1 ≤ 10 → f = x.1.2.2.1 ∧ l = x.1.2.2.2) ∧ ((x.1.1 ≤ 2 ∨ x.1.1 = 6 ∨ x.1.1 = 9 ∨ x.1.1 = 10 ∨ x.1.1 = 14) → tk = x.2.1.1) ∧
  (x.1.1 ≤ 1 → a = ltyZ x.1.2.1 ∧ (x.1.1 = 0 → b = if x.2.1.2.1 = 1 then 1 else 0)) ∧ ((x.1.1 = 4 ∨ x.1.1 = 6 ∨ x.1.1 = 7) → (a, x.1.2.1) ∈ sgT) ∧ (x.1.1 = 5 → a = x.2.1.2.2) ∧
  (x.1.1 = 9 → if x.1.2.1 = 8 then a = 61 else (a - 400, x.1.2.1) ∈ sgT) ∧ (x.1.1 = 10 → a = x.2.2.2.length) ∧ (x.1.1 = 14 → (a + 400, x.1.2.1) ∈ sgT) ∧ (x.1.1 = 15 → a = x.2.1.2.1 ∧ b = 1)
theorem cm_lit {g : Int} {i : Nat} {s : SpC} {op a b tk f l : Int} (ho : op = 1) (hf : f = zAt s) (hl : l = zAt s) (ht : tk = zAt s) (ha : a = ltyZ (codY s)) (hb : b = if g = 1 then 1 else 0) (hc : codY s = 81 ∨ codY s = 82 ∨ codY s = 83 ∨ codY s = 72 ∨ codY s = 73) : cmZ op a b tk f l (litZ g i s) := by
  have hk : (litZ g i s).1.1 = if codY s = 81 ∨ codY s = 82 then 0 else 1 := rfl
  have h1 : (litZ g i s).1.1 ≤ 1 := by rw [hk]; split <;> decide
  have h0 : 0 ≤ (litZ g i s).1.1 := by rw [hk]; split <;> decide
  refine ⟨by unfold opkZ; rw [if_pos h1]; exact ho, fun _ => ⟨hf, hl⟩, fun _ => ht, fun _ => ⟨ha, fun q => ?_⟩, fun q => ?_, fun q => ?_, fun q => ?_, fun q => ?_, fun q => ?_, fun q => ?_⟩
  · rw [hk] at q
    have hc2 : codY s = 81 ∨ codY s = 82 := by
      by_cases z : codY s = 81 ∨ codY s = 82
      · exact z
      · rw [if_neg z] at q
        exact absurd q (by decide)
    show b = if (if (codY s = 81 ∨ codY s = 82) ∧ g = 1 then (1 : Int) else -1) = 1 then 1 else 0
    rw [hb]
    by_cases hg : g = 1
    · rw [if_pos hg, if_pos (show (codY s = 81 ∨ codY s = 82) ∧ g = 1 from ⟨hc2, hg⟩), if_pos rfl]
    · rw [if_neg hg, if_neg (show ¬ ((codY s = 81 ∨ codY s = 82) ∧ g = 1) from fun z => hg z.2), if_neg (by decide)]
  all_goals omega
theorem cm_nam {v : Int} {i : Nat} {s : SpC} {op a b tk f l : Int} (ho : op = 2) (hf : f = zAt s) (hl : l = zAt s) (ht : tk = zAt s) : cmZ op a b tk f l (namZ v i s) := ⟨ho, (fun _ => ⟨hf, hl⟩), (fun _ => ht), (fun q => absurd (show (2 : Int) ≤ 1 from q) (by decide)), (fun q => absurd (show (2 : Int) = 4 ∨ (2 : Int) = 6 ∨ (2 : Int) = 7 from q) (by decide)), (fun q => absurd (show (2 : Int) = 5 from q) (by decide)), (fun q => absurd (show (2 : Int) = 9 from q) (by decide)), (fun q => absurd (show (2 : Int) = 10 from q) (by decide)), (fun q => absurd (show (2 : Int) = 14 from q) (by decide)), (fun q => absurd (show (2 : Int) = 15 from q) (by decide))⟩
theorem cm_par {t st : Int} {i : Nat} {s : SpC} {op a b tk f l : Int} (ho : op = 15) (hf : f = t) (hl : l = zAt s) : cmZ op a b tk f l (parZ t st i s) := ⟨ho, (fun _ => ⟨hf, hl⟩), (fun q => absurd (show (3 : Int) ≤ 2 ∨ (3 : Int) = 6 ∨ (3 : Int) = 9 ∨ (3 : Int) = 10 ∨ (3 : Int) = 14 from q) (by decide)), (fun q => absurd (show (3 : Int) ≤ 1 from q) (by decide)), (fun q => absurd (show (3 : Int) = 4 ∨ (3 : Int) = 6 ∨ (3 : Int) = 7 from q) (by decide)), (fun q => absurd (show (3 : Int) = 5 from q) (by decide)), (fun q => absurd (show (3 : Int) = 9 from q) (by decide)), (fun q => absurd (show (3 : Int) = 10 from q) (by decide)), (fun q => absurd (show (3 : Int) = 14 from q) (by decide)), (fun q => absurd (show (3 : Int) = 15 from q) (by decide))⟩
theorem cm_aln {sg t st : Int} {i : Nat} {s : SpC} {op a b tk f l : Int} (ho : op = 5) (hf : f = t) (hl : l = zAt s - 1) (ha : (a, sg) ∈ sgT) : cmZ op a b tk f l (alnZ sg t st i s) := ⟨ho, (fun _ => ⟨hf, hl⟩), (fun q => absurd (show (4 : Int) ≤ 2 ∨ (4 : Int) = 6 ∨ (4 : Int) = 9 ∨ (4 : Int) = 10 ∨ (4 : Int) = 14 from q) (by decide)), (fun q => absurd (show (4 : Int) ≤ 1 from q) (by decide)), (fun _ => ha), (fun q => absurd (show (4 : Int) = 5 from q) (by decide)), (fun q => absurd (show (4 : Int) = 9 from q) (by decide)), (fun q => absurd (show (4 : Int) = 10 from q) (by decide)), (fun q => absurd (show (4 : Int) = 14 from q) (by decide)), (fun q => absurd (show (4 : Int) = 15 from q) (by decide))⟩
theorem cm_cas {ty t st : Int} {i : Nat} {s : SpC} {op a b tk f l : Int} (ho : op = 6) (hf : f = t) (hl : l = zAt s - 1) (ha : a = ty) : cmZ op a b tk f l (casZ ty t st i s) := ⟨ho, (fun _ => ⟨hf, hl⟩), (fun q => absurd (show (5 : Int) ≤ 2 ∨ (5 : Int) = 6 ∨ (5 : Int) = 9 ∨ (5 : Int) = 10 ∨ (5 : Int) = 14 from q) (by decide)), (fun q => absurd (show (5 : Int) ≤ 1 from q) (by decide)), (fun q => absurd (show (5 : Int) = 4 ∨ (5 : Int) = 6 ∨ (5 : Int) = 7 from q) (by decide)), (fun _ => ha), (fun q => absurd (show (5 : Int) = 9 from q) (by decide)), (fun q => absurd (show (5 : Int) = 10 from q) (by decide)), (fun q => absurd (show (5 : Int) = 14 from q) (by decide)), (fun q => absurd (show (5 : Int) = 15 from q) (by decide))⟩
theorem cm_pos {v : Int} {i : Nat} {s : SpC} {op a b tk f l : Int} (ho : op = 3) (hf : f = zAt s) (hl : l = zAt s + 1) (ht : tk = zAt s) (ha : (a, cobY s) ∈ sgT) : cmZ op a b tk f l (posZ v i s) := ⟨(ho.trans (show (3 : Int) = if zAt s = zAt s then 3 else 4 from (if_pos rfl).symm)), (fun _ => ⟨hf, hl⟩), (fun _ => ht), (fun q => absurd (show (6 : Int) ≤ 1 from q) (by decide)), (fun _ => ha), (fun q => absurd (show (6 : Int) = 5 from q) (by decide)), (fun q => absurd (show (6 : Int) = 9 from q) (by decide)), (fun q => absurd (show (6 : Int) = 10 from q) (by decide)), (fun q => absurd (show (6 : Int) = 14 from q) (by decide)), (fun q => absurd (show (6 : Int) = 15 from q) (by decide))⟩
theorem cm_pre {v : Int} {i : Nat} {s : SpC} {op a b tk f l : Int} (ho : op = 4) (hf : f = zAt s) (hl : l = zAt s + 1) (ht : tk = zAt s + 1) (ha : (a, codY s) ∈ sgT) : cmZ op a b tk f l (preZ v i s) := ⟨(ho.trans (show (4 : Int) = if zAt s + 1 = zAt s then 3 else 4 from (if_neg (by omega)).symm)), (fun _ => ⟨hf, hl⟩), (fun _ => ht), (fun q => absurd (show (6 : Int) ≤ 1 from q) (by decide)), (fun _ => ha), (fun q => absurd (show (6 : Int) = 5 from q) (by decide)), (fun q => absurd (show (6 : Int) = 9 from q) (by decide)), (fun q => absurd (show (6 : Int) = 10 from q) (by decide)), (fun q => absurd (show (6 : Int) = 14 from q) (by decide)), (fun q => absurd (show (6 : Int) = 15 from q) (by decide))⟩
theorem cm_chn {sg f0 st a0 mk : Int} {i : Nat} {s : SpC} {op a b tk f l : Int} (ho : op = if sg = 21 then 9 else if sg = 20 then 11 else 7) (hf : f = f0) (hl : l = zAt s - 1) (ha : (a, sg) ∈ sgT) : cmZ op a b tk f l (chnZ sg f0 st a0 mk i s) := ⟨ho, (fun _ => ⟨hf, hl⟩), (fun q => absurd (show (7 : Int) ≤ 2 ∨ (7 : Int) = 6 ∨ (7 : Int) = 9 ∨ (7 : Int) = 10 ∨ (7 : Int) = 14 from q) (by decide)), (fun q => absurd (show (7 : Int) ≤ 1 from q) (by decide)), (fun _ => ha), (fun q => absurd (show (7 : Int) = 5 from q) (by decide)), (fun q => absurd (show (7 : Int) = 9 from q) (by decide)), (fun q => absurd (show (7 : Int) = 10 from q) (by decide)), (fun q => absurd (show (7 : Int) = 14 from q) (by decide)), (fun q => absurd (show (7 : Int) = 15 from q) (by decide))⟩
theorem cm_chr {f0 st a0 b0 mk : Int} {i : Nat} {s : SpC} {op a b tk f l : Int} (ho : op = 14) (hf : f = f0) (hl : l = zAt s - 1) : cmZ op a b tk f l (chrZ f0 st a0 b0 mk i s) := ⟨ho, (fun _ => ⟨hf, hl⟩), (fun q => absurd (show (8 : Int) ≤ 2 ∨ (8 : Int) = 6 ∨ (8 : Int) = 9 ∨ (8 : Int) = 10 ∨ (8 : Int) = 14 from q) (by decide)), (fun q => absurd (show (8 : Int) ≤ 1 from q) (by decide)), (fun q => absurd (show (8 : Int) = 4 ∨ (8 : Int) = 6 ∨ (8 : Int) = 7 from q) (by decide)), (fun q => absurd (show (8 : Int) = 5 from q) (by decide)), (fun q => absurd (show (8 : Int) = 9 from q) (by decide)), (fun q => absurd (show (8 : Int) = 10 from q) (by decide)), (fun q => absurd (show (8 : Int) = 14 from q) (by decide)), (fun q => absurd (show (8 : Int) = 15 from q) (by decide))⟩
theorem cm_asr {v sg t st mk : Int} {i : Nat} {s : SpC} {op a b tk f l : Int} (ho : op = 17) (hf : f = t) (hl : l = zAt s - 1) (ht : tk = t) (ha : if opfZ sg = 8 then a = 61 else (a - 400, opfZ sg) ∈ sgT) : cmZ op a b tk f l (asrZ v sg t st mk i s) := ⟨ho, (fun _ => ⟨hf, hl⟩), (fun _ => ht), (fun q => absurd (show (9 : Int) ≤ 1 from q) (by decide)), (fun q => absurd (show (9 : Int) = 4 ∨ (9 : Int) = 6 ∨ (9 : Int) = 7 from q) (by decide)), (fun q => absurd (show (9 : Int) = 5 from q) (by decide)), (fun _ => ha), (fun q => absurd (show (9 : Int) = 10 from q) (by decide)), (fun q => absurd (show (9 : Int) = 14 from q) (by decide)), (fun q => absurd (show (9 : Int) = 15 from q) (by decide))⟩
theorem cm_cal {t st : Int} {ar : List Int} {s : SpC} {op a b tk f l : Int} (ho : op = 18) (hf : f = t) (hl : l = zAt s) (ht : tk = t) (ha : a = ar.length) : cmZ op a b tk f l (calZ t st ar s) := ⟨ho, (fun _ => ⟨hf, hl⟩), (fun _ => ht), (fun q => absurd (show (10 : Int) ≤ 1 from q) (by decide)), (fun q => absurd (show (10 : Int) = 4 ∨ (10 : Int) = 6 ∨ (10 : Int) = 7 from q) (by decide)), (fun q => absurd (show (10 : Int) = 5 from q) (by decide)), (fun q => absurd (show (10 : Int) = 9 from q) (by decide)), (fun _ => ha), (fun q => absurd (show (10 : Int) = 14 from q) (by decide)), (fun q => absurd (show (10 : Int) = 15 from q) (by decide))⟩
theorem cm_frk {i : Nat} {s : SpC} {op a b tk f l : Int} (ho : op = if codY s = 21 then 8 else 10) : cmZ op a b tk f l (frkZ i s) := ⟨ho, (fun q => absurd (show (11 : Int) ≤ 10 from q) (by decide)), (fun q => absurd (show (11 : Int) ≤ 2 ∨ (11 : Int) = 6 ∨ (11 : Int) = 9 ∨ (11 : Int) = 10 ∨ (11 : Int) = 14 from q) (by decide)), (fun q => absurd (show (11 : Int) ≤ 1 from q) (by decide)), (fun q => absurd (show (11 : Int) = 4 ∨ (11 : Int) = 6 ∨ (11 : Int) = 7 from q) (by decide)), (fun q => absurd (show (11 : Int) = 5 from q) (by decide)), (fun q => absurd (show (11 : Int) = 9 from q) (by decide)), (fun q => absurd (show (11 : Int) = 10 from q) (by decide)), (fun q => absurd (show (11 : Int) = 14 from q) (by decide)), (fun q => absurd (show (11 : Int) = 15 from q) (by decide))⟩
theorem cm_thn {i : Nat} {s : SpC} {op a b tk f l : Int} (ho : op = 12) : cmZ op a b tk f l (thnZ i s) := ⟨ho, (fun q => absurd (show (12 : Int) ≤ 10 from q) (by decide)), (fun q => absurd (show (12 : Int) ≤ 2 ∨ (12 : Int) = 6 ∨ (12 : Int) = 9 ∨ (12 : Int) = 10 ∨ (12 : Int) = 14 from q) (by decide)), (fun q => absurd (show (12 : Int) ≤ 1 from q) (by decide)), (fun q => absurd (show (12 : Int) = 4 ∨ (12 : Int) = 6 ∨ (12 : Int) = 7 from q) (by decide)), (fun q => absurd (show (12 : Int) = 5 from q) (by decide)), (fun q => absurd (show (12 : Int) = 9 from q) (by decide)), (fun q => absurd (show (12 : Int) = 10 from q) (by decide)), (fun q => absurd (show (12 : Int) = 14 from q) (by decide)), (fun q => absurd (show (12 : Int) = 15 from q) (by decide))⟩
theorem cm_els {th : Int} {i : Nat} {s : SpC} {op a b tk f l : Int} (ho : op = 13) : cmZ op a b tk f l (elsZ th i s) := ⟨ho, (fun q => absurd (show (13 : Int) ≤ 10 from q) (by decide)), (fun q => absurd (show (13 : Int) ≤ 2 ∨ (13 : Int) = 6 ∨ (13 : Int) = 9 ∨ (13 : Int) = 10 ∨ (13 : Int) = 14 from q) (by decide)), (fun q => absurd (show (13 : Int) ≤ 1 from q) (by decide)), (fun q => absurd (show (13 : Int) = 4 ∨ (13 : Int) = 6 ∨ (13 : Int) = 7 from q) (by decide)), (fun q => absurd (show (13 : Int) = 5 from q) (by decide)), (fun q => absurd (show (13 : Int) = 9 from q) (by decide)), (fun q => absurd (show (13 : Int) = 10 from q) (by decide)), (fun q => absurd (show (13 : Int) = 14 from q) (by decide)), (fun q => absurd (show (13 : Int) = 15 from q) (by decide))⟩
theorem cm_tak {v : Int} {i : Nat} {s : SpC} {op a b tk f l : Int} (ho : op = 16) (ht : tk = zAt s) (ha : (a + 400, cobY s) ∈ sgT) : cmZ op a b tk f l (takZ v i s) := ⟨ho, (fun q => absurd (show (14 : Int) ≤ 10 from q) (by decide)), (fun _ => ht), (fun q => absurd (show (14 : Int) ≤ 1 from q) (by decide)), (fun q => absurd (show (14 : Int) = 4 ∨ (14 : Int) = 6 ∨ (14 : Int) = 7 from q) (by decide)), (fun q => absurd (show (14 : Int) = 5 from q) (by decide)), (fun q => absurd (show (14 : Int) = 9 from q) (by decide)), (fun q => absurd (show (14 : Int) = 10 from q) (by decide)), (fun _ => ha), (fun q => absurd (show (14 : Int) = 15 from q) (by decide))⟩
theorem cm_sto {v j st : Int} {i : Nat} {s : SpC} {op a b tk f l : Int} (ho : op = 22) (ha : a = v) (hb : b = 1) : cmZ op a b tk f l (stoZ v j st i s) := ⟨ho, (fun q => absurd (show (15 : Int) ≤ 10 from q) (by decide)), (fun q => absurd (show (15 : Int) ≤ 2 ∨ (15 : Int) = 6 ∨ (15 : Int) = 9 ∨ (15 : Int) = 10 ∨ (15 : Int) = 14 from q) (by decide)), (fun q => absurd (show (15 : Int) ≤ 1 from q) (by decide)), (fun q => absurd (show (15 : Int) = 4 ∨ (15 : Int) = 6 ∨ (15 : Int) = 7 from q) (by decide)), (fun q => absurd (show (15 : Int) = 5 from q) (by decide)), (fun q => absurd (show (15 : Int) = 9 from q) (by decide)), (fun q => absurd (show (15 : Int) = 10 from q) (by decide)), (fun q => absurd (show (15 : Int) = 14 from q) (by decide)), (fun _ => ⟨ha, hb⟩)⟩
theorem sgT_sZ : ∀ p ∈ sgT, (stR (Int32.ofInt p.1)).toInt = strZ p.2 := by decide
theorem sgT_aZ : ∀ p ∈ sgT, 8 ≤ p.2 ∧ p.2 ≤ 19 → if opfZ p.2 = 8 then p.1 = 61 else (p.1 - 400, opfZ p.2) ∈ sgT := by decide
theorem sgT_8 : ∀ p ∈ sgT, p.2 = 8 ↔ p.1 = 61 := by decide
theorem str_st {a : Int32} {x : Int} (h : (a.toInt, x) ∈ sgT) : (stR a).toInt = strZ x := by
  have := sgT_sZ _ h
  dsimp only at this
  rw [Int32.ofInt_toInt] at this
  exact this
def ccZ (τ : RS) (c : Nat) (x : XrZ) : Prop := cmZ (aI τ 19 c).toInt (aI τ 20 c).toInt (aI τ 21 c).toInt (aI τ 22 c).toInt (aI τ 23 c).toInt (aI τ 24 c).toInt x
/-- a code of an S -/
def itR (th : Int → Int) (τ : RS) (c : Nat) : ItZ → Prop
  | .inl x => ccZ τ c x
  | .inr x => (aI τ 19 c).toInt = x.1 ∧ (aI τ 20 c).toInt = th x.2.1 ∧ (aI τ 21 c).toInt = x.2.2.1 ∧ (aI τ 22 c).toInt = x.2.2.2.1
/-- the codes, the last one first -/
def IcR (th : Int → Int) (τ : RS) : List ItZ → Prop
  | [] => True
  | x :: l => itR th τ l.length x ∧ IcR th τ l
theorem ccZ.fr {σ τ : RS} {c : Nat} {x : XrZ} (h : ∀ k, 19 ≤ k → k ≤ 24 → aI τ k c = aI σ k c) (q : ccZ σ c x) : ccZ τ c x := by
  unfold ccZ
  rw [h 19 (by omega) (by omega), h 20 (by omega) (by omega), h 21 (by omega) (by omega), h 22 (by omega) (by omega), h 23 (by omega) (by omega), h 24 (by omega) (by omega)]
  exact q
theorem itR.fr {th : Int → Int} {σ τ : RS} {c : Nat} {x : ItZ} (h : ∀ k, 19 ≤ k → k ≤ 24 → aI τ k c = aI σ k c) (q : itR th σ c x) : itR th τ c x := by
  cases x with
  | inl x => exact ccZ.fr h q
  | inr x =>
    show _ ∧ _ ∧ _ ∧ _
    rw [h 19 (by omega) (by omega), h 20 (by omega) (by omega), h 21 (by omega) (by omega), h 22 (by omega) (by omega)]
    exact q
theorem IcR.fr {th : Int → Int} {σ τ : RS} : ∀ {L : List ItZ}, (∀ k, 19 ≤ k → k ≤ 24 → ∀ j, j < L.length → aI τ k j = aI σ k j) → IcR th σ L → IcR th τ L := by
  intro L
  induction L with
  | nil => intro _ _; trivial
  | cons x L ih =>
    intro h q
    exact ⟨q.1.fr (fun k h1 h2 => h k h1 h2 _ (by rw [List.length_cons]; omega)), ih (fun k h1 h2 j h3 => h k h1 h2 j (by rw [List.length_cons]; omega)) q.2⟩
/-- what is laid -/
def PcM (th : Int → Int) (τ : RS) (z : ZS) : Prop := IcR th τ z.2.1 ∧ nT (gI τ 18) = z.2.1.length
theorem PcM.fr {th : Int → Int} {σ τ : RS} {z : ZS} (h : PcM th σ z) (e : gI τ 18 = gI σ 18) (f : ∀ k, 19 ≤ k → k ≤ 24 → ∀ j, j < nT (gI σ 18) → aI τ k j = aI σ k j) : PcM th τ z := ⟨h.1.fr (fun k a b j d => f k a b j (by have := h.2; omega)), by rw [e]; exact h.2⟩
theorem PcM.z {th : Int → Int} {σ : RS} {z z' : ZS} (h : PcM th σ z) (e : z'.2.1 = z.2.1) : PcM th σ z' := by unfold PcM; rw [e]; exact h
theorem PcM.i {th : Int → Int} {σ : RS} {z : ZS} {k : Nat} {v : Int32} (h : PcM th σ z) (hk : k ≠ 18) : PcM th (sI σ k v) z := h.fr (by rw [gI_sI, nb_ne (fun q => hk q.symm)]) (fun _ _ _ _ _ => rfl)
theorem PcM.a {th : Int → Int} {σ : RS} {z : ZS} {k : Nat} {g : Nat → Int32} (h : PcM th σ z) (hk : k < 19 ∨ 24 < k) : PcM th (sA σ k g) z := h.fr rfl (fun j a b _ _ => by rw [aI_ne (by omega)])
theorem PcM.s1 {th : Int → Int} {k : Nat} {σ τ : RS} {z : ZS} (h : PcM th σ z) (e : S1 k σ τ) (hk : k ≠ 18) : PcM th τ z := h.fr (e.1 18 (fun q => hk q.symm)) (fun _ _ _ _ _ => by rw [e.2])
theorem PcM.pu {th : Int → Int} {σ τ : RS} {z : ZS} {s g t : Int32} (h : PcM th σ z) (e : Pu σ s g t τ) : PcM th τ z := h.fr (e.1 18 (by decide)) (fun k a b _ _ => by rw [e.2.2.2.1 k (by omega)])
theorem PcM.st {th : Int → Int} {σ τ : RS} {z : ZS} {x : ItZ} (h : PcM th σ z) (e : nT (gI τ 18) = nT (gI σ 18) + 1) (f : ∀ k, 19 ≤ k → k ≤ 24 → ∀ j, j < nT (gI σ 18) → aI τ k j = aI σ k j) (m : itR th τ (nT (gI σ 18)) x) : PcM th τ (z.1, x :: z.2.1, z.2.2) := by
  refine ⟨⟨by rw [← h.2]; exact m, h.1.fr (fun k a b j d => f k a b j (by have := h.2; omega))⟩, ?_⟩
  rw [e, h.2]
  rfl
/-- one code more, exactly -/
def EmZ (σ : RS) (op a b t f l : Int32) (τ : RS) : Prop := Em σ op a τ ∧ aI τ 21 = upd (aI σ 21) (nT (gI σ 18)) b ∧ aI τ 22 = upd (aI σ 22) (nT (gI σ 18)) t ∧ aI τ 23 = upd (aI σ 23) (nT (gI σ 18)) f ∧ aI τ 24 = upd (aI σ 24) (nT (gI σ 18)) l
theorem EmZ.n {σ τ : RS} {op a b t f l : Int32} (h : EmZ σ op a b t f l τ) : nT (gI τ 18) = nT (gI σ 18) + 1 := by
  have e := h.1.2.2.2.2.2
  rw [h.1.2.1]
  exact nT_add e.1 (by lia)
theorem EmZ.o {σ τ : RS} {op a b t f l : Int32} (h : EmZ σ op a b t f l τ) {k j : Nat} (h1 : 19 ≤ k) (h2 : k ≤ 24) (hj : j < nT (gI σ 18)) : aI τ k j = aI σ k j := by
  have hn : j ≠ nT (gI σ 18) := by omega
  have hk : k = 19 ∨ k = 20 ∨ k = 21 ∨ k = 22 ∨ k = 23 ∨ k = 24 := by omega
  rcases hk with rfl | rfl | rfl | rfl | rfl | rfl
  · rw [h.1.2.2.1, upd_ne hn]
  · rw [h.1.2.2.2.1, upd_ne hn]
  · rw [h.2.1, upd_ne hn]
  · rw [h.2.2.1, upd_ne hn]
  · rw [h.2.2.2.1, upd_ne hn]
  · rw [h.2.2.2.2, upd_ne hn]
theorem EmZ.c {σ τ : RS} {op a b t f l : Int32} (h : EmZ σ op a b t f l τ) : aI τ 19 (nT (gI σ 18)) = op ∧ aI τ 20 (nT (gI σ 18)) = a ∧ aI τ 21 (nT (gI σ 18)) = b ∧ aI τ 22 (nT (gI σ 18)) = t ∧ aI τ 23 (nT (gI σ 18)) = f ∧ aI τ 24 (nT (gI σ 18)) = l := by
  rw [h.1.2.2.1, h.1.2.2.2.1, h.2.1, h.2.2.1, h.2.2.2.1, h.2.2.2.2]
  exact ⟨upd_eq, upd_eq, upd_eq, upd_eq, upd_eq, upd_eq⟩
theorem PcM.em {th : Int → Int} {σ τ : RS} {z : ZS} {x : XrZ} {op a b t f l : Int32} (h : PcM th σ z) (e : EmZ σ op a b t f l τ) (m : cmZ op.toInt a.toInt b.toInt t.toInt f.toInt l.toInt x) : PcM th τ (puM x z) := by
  refine h.st (x := .inl x) e.n (fun k h1 h2 j hj => e.o h1 h2 hj) ?_
  obtain ⟨c1, c2, c3, c4, c5, c6⟩ := e.c
  show ccZ τ _ x
  unfold ccZ
  rw [c1, c2, c3, c4, c5, c6]
  exact m
/-- values below an open sign -/
def vnZ : List OpZ → Nat
  | [] => 0
  | o :: O => (if o.1 = 2 ∨ o.1 = 6 then 1 else if o.1 = 7 then 2 else if o.1 = 4 then o.2.2.2.2.length else 0) + vnZ O
def sgZ (k x a : Int) : Prop := ((k = 0 ∨ k = 2 ∨ k = 5) → (a, x) ∈ sgT) ∧ (k = 1 → a = x) ∧ (k = 2 → 20 ≤ x ∧ x ≤ 38) ∧ (k = 5 → 8 ≤ x ∧ x ≤ 19)
def lnZ (k : Int) (l : List Int) : Prop := (k = 2 → ∃ a m, l = [a, m]) ∧ (k = 5 → ∃ m v, l = [m, v]) ∧ (k = 6 → ∃ a b, l = [a, b]) ∧ (k = 7 → ∃ a b m, l = [a, b, m])
/-- what stands open -/
def ozR (τ : RS) : List OpZ → Prop
  | [] => True
  | o :: O => ((aI τ 25 O.length).toInt = o.1 ∧ sgZ o.1 o.2.1 (aI τ 26 O.length).toInt ∧ (¬ (o.1 = 2 ∨ o.1 = 6 ∨ o.1 = 7) → (aI τ 27 O.length).toInt = o.2.2.1) ∧ (o.1 = 4 → (aI τ 28 O.length).toInt = o.2.2.2.2.length) ∧ ((o.1 = 2 ∨ o.1 = 6 ∨ o.1 = 7) → (aI τ 30 (vnZ O)).toInt = o.2.2.1) ∧ lnZ o.1 o.2.2.2.2) ∧ ozR τ O
def OzZ (τ : RS) (O : List OpZ) : Prop := ozR τ O ∧ (gI τ 29).toInt = O.length ∧ wfY (osZ O)
theorem ozR.fr {σ τ : RS} : ∀ {O : List OpZ}, (∀ k, 25 ≤ k → k ≤ 28 → ∀ j, j < O.length → aI τ k j = aI σ k j) → (∀ j, j < vnZ O → aI τ 30 j = aI σ 30 j) → ozR σ O → ozR τ O := by
  intro O
  induction O with
  | nil => intro _ _ _; trivial
  | cons o O ih =>
    intro h v q
    have hl : O.length < (o :: O).length := by rw [List.length_cons]; omega
    have e5 := h 25 (by omega) (by omega) _ hl
    have e6 := h 26 (by omega) (by omega) _ hl
    have e7 := h 27 (by omega) (by omega) _ hl
    have e8 := h 28 (by omega) (by omega) _ hl
    obtain ⟨⟨q1, q2, q3, q4, q5, q6⟩, q7⟩ := q
    refine ⟨⟨by rw [e5]; exact q1, by rw [e6]; exact q2, by rw [e7]; exact q3, by rw [e8]; exact q4, fun z => ?_, q6⟩, ih (fun k a b j hj => h k a b j (by omega)) (fun j hj => v j (by show j < _ + vnZ O; omega)) q7⟩
    have hv : vnZ O < vnZ (o :: O) := by
      show vnZ O < (if o.1 = 2 ∨ o.1 = 6 then 1 else if o.1 = 7 then 2 else if o.1 = 4 then o.2.2.2.2.length else 0) + vnZ O
      by_cases z1 : o.1 = 2 ∨ o.1 = 6
      · rw [if_pos z1]; omega
      · rw [if_neg z1, if_pos (by omega)]; omega
    rw [v _ hv]
    exact q5 z
theorem OzZ.fr {σ τ : RS} {O : List OpZ} (h : OzZ σ O) (e : gI τ 29 = gI σ 29) (f : ∀ k, 25 ≤ k → k ≤ 28 → ∀ j, j < O.length → aI τ k j = aI σ k j) (v : ∀ j, j < vnZ O → aI τ 30 j = aI σ 30 j) : OzZ τ O := ⟨h.1.fr f v, by rw [e]; exact h.2.1, h.2.2⟩
theorem OzZ.i {σ : RS} {O : List OpZ} {k : Nat} {x : Int32} (h : OzZ σ O) (hk : k ≠ 29) : OzZ (sI σ k x) O := h.fr (by rw [gI_sI, nb_ne (fun q => hk q.symm)]) (fun _ _ _ _ _ => rfl) (fun _ _ => rfl)
theorem OzZ.a {σ : RS} {O : List OpZ} {k : Nat} {g : Nat → Int32} (h : OzZ σ O) (hk : k < 25 ∨ 30 < k ∨ k = 29) : OzZ (sA σ k g) O := h.fr rfl (fun j a b _ _ => by rw [aI_ne (by omega)]) (fun _ _ => by rw [aI_ne (by omega)])
theorem OzZ.v {σ : RS} {O : List OpZ} {j : Nat} {x : Int32} (h : OzZ σ O) (hj : vnZ O ≤ j) : OzZ (sA σ 30 (upd (aI σ 30) j x)) O := h.fr rfl (fun k a b _ _ => by rw [aI_ne (by omega)]) (fun i hi => by rw [aI_eq, upd_ne (by omega)])
theorem OzZ.em {σ τ : RS} {O : List OpZ} {op a : Int32} (h : OzZ σ O) (e : Em σ op a τ) : OzZ τ O := h.fr (e.1 29 (by decide)) (fun k a b _ _ => by rw [e.2.2.2.2.1 k (by omega)]) (fun _ _ => by rw [e.2.2.2.2.1 30 (by omega)])
theorem OzZ.s1 {k : Nat} {σ τ : RS} {O : List OpZ} (h : OzZ σ O) (e : S1 k σ τ) (hk : k ≠ 29) : OzZ τ O := h.fr (e.1 29 (fun q => hk q.symm)) (fun _ _ _ _ _ => by rw [e.2]) (fun _ _ => by rw [e.2])
theorem OzZ.sorts {τ : RS} {O : List OpZ} (h : OzZ τ O) : oR τ = osZ O := by
  have e : nT (gI τ 29) = O.length := by
    show (gI τ 29).toInt.toNat = _
    rw [h.2.1]
    rfl
  unfold oR
  rw [e]
  have g : ∀ {O : List OpZ}, ozR τ O → olY (aI τ 25) O.length = osZ O := by
    intro O
    induction O with
    | nil => intro _; rfl
    | cons o O ih =>
      intro q
      show (aI τ 25 O.length).toInt :: olY (aI τ 25) O.length = o.1 :: osZ O
      rw [q.1.1, ih q.2]
  exact g h.1
theorem OzZ.pos {τ : RS} {o : OpZ} {O : List OpZ} (h : OzZ τ (o :: O)) : 0 < gI τ 29 := by
  have e := h.2.1
  rw [Int32.lt_iff_toInt_lt, e]
  show (0 : Int) < ((O.length + 1 : Nat) : Int)
  omega
theorem OzZ.cons {τ : RS} {O : List OpZ} (h : OzZ τ O) (p : 0 < gI τ 29) : ∃ o O', O = o :: O' := by
  cases O with
  | nil =>
    have e := h.2.1
    rw [Int32.lt_iff_toInt_lt, e] at p
    exact absurd p (by decide)
  | cons o O => exact ⟨o, O, rfl⟩
theorem OzZ.nil {τ : RS} {O : List OpZ} (h : OzZ τ O) (p : gI τ 29 ≤ 0) : O = [] := by
  cases O with
  | nil => rfl
  | cons o O => exact absurd h.pos (Int32.not_lt.mpr p)
/-- the place of the top -/
theorem OzZ.top {τ : RS} {o : OpZ} {O : List OpZ} (h : OzZ τ (o :: O)) : (gI τ 29 - 1).toNatClampNeg = O.length := by
  have e := nT_sub h.pos
  have f : nT (gI τ 29) = O.length + 1 := by
    show (gI τ 29).toInt.toNat = _
    rw [h.2.1]
    rfl
  have : nT (gI τ 29 - 1) = O.length := by omega
  exact this
theorem OzZ.pop {τ : RS} {o : OpZ} {O : List OpZ} (h : OzZ τ (o :: O)) : OzZ (sI τ 29 (gI τ 29 - 1)) O := by
  refine ⟨ozR.fr (σ := τ) (τ := sI τ 29 (gI τ 29 - 1)) (fun _ _ _ _ _ => rfl) (fun _ _ => rfl) h.1.2, ?_, h.2.2.2.2.2.2⟩
  show (gI τ 29 - 1).toInt = _
  have e := nT_sub h.pos
  have p := Int32.lt_iff_toInt_lt.mp h.pos
  have t := h.top
  have q : (gI τ 29 - 1).toNatClampNeg = (gI τ 29 - 1).toInt.toNat := rfl
  have r : 0 ≤ gI τ 29 - 1 := by have := h.pos; lia
  have r := Int32.le_iff_toInt_le.mp r
  have r : 0 ≤ (gI τ 29 - 1).toInt := r
  omega
theorem OzZ.push {σ τ : RS} {O : List OpZ} {o : OpZ} {s g t : Int32} (h : OzZ σ O) (e : Pu σ s g t τ) (e8 : aI τ 28 = upd (aI σ 28) (nT (gI σ 29)) 0) (hs : s.toInt = o.1) (hg : sgZ o.1 o.2.1 g.toInt) (ht : ¬ (o.1 = 2 ∨ o.1 = 6 ∨ o.1 = 7) → t.toInt = o.2.2.1) (h4 : o.1 = 4 → o.2.2.2.2 = []) (hv : (o.1 = 2 ∨ o.1 = 6 ∨ o.1 = 7) → (aI σ 30 (vnZ O)).toInt = o.2.2.1) (hl : lnZ o.1 o.2.2.2.2) (hw : wfY (osZ (o :: O))) : OzZ τ (o :: O) := by
  have en : nT (gI σ 29) = O.length := by
    show (gI σ 29).toInt.toNat = _
    rw [h.2.1]
    rfl
  have e30 : aI τ 30 = aI σ 30 := e.2.2.2.1 30 (by omega)
  refine ⟨⟨⟨?_, ?_, ?_, ?_, ?_, hl⟩, h.1.fr (fun k a b j hj => ?_) (fun j _ => by rw [e30])⟩, ?_, hw⟩
  · rw [e.2.2.1.1, ← en, upd_eq]; exact hs
  · rw [e.2.2.1.2.1, ← en, upd_eq]; exact hg
  · rw [e.2.2.1.2.2, ← en, upd_eq]; exact ht
  · intro z; rw [e8, ← en, upd_eq, h4 z]; rfl
  · intro z; rw [e30]; exact hv z
  · have hn : j ≠ nT (gI σ 29) := by omega
    have hk : k = 25 ∨ k = 26 ∨ k = 27 ∨ k = 28 := by omega
    rcases hk with rfl | rfl | rfl | rfl
    · rw [e.2.2.1.1, upd_ne hn]
    · rw [e.2.2.1.2.1, upd_ne hn]
    · rw [e.2.2.1.2.2, upd_ne hn]
    · rw [e8, upd_ne hn]
  · rw [e.2.1]
    have b := e.2.2.2.2
    have b1 := Int32.le_iff_toInt_le.mp b.1
    have b2 := Int32.lt_iff_toInt_lt.mp b.2
    have b1 : 0 ≤ (gI σ 29).toInt := b1
    have b2 : (gI σ 29).toInt < 600 := b2
    rw [i32_add (by omega) (by omega), h.2.1, List.length_cons]
    omega
/-- behind an operand: its first token, the last one, its code -/
def BhZ (τ : RS) (s : SpC) (O : List OpZ) (r : Int × Int) : Prop := (gI τ 31).toInt = vnZ O + 1 ∧ (aI τ 30 (vnZ O)).toInt = r.1 ∧ (gI τ 32).toInt = zAt s - 1 ∧ (gI τ 33).toInt + 1 = (gI τ 18).toInt
theorem BhZ.fr {σ τ : RS} {s : SpC} {O : List OpZ} {r : Int × Int} (h : BhZ σ s O r) (e1 : gI τ 31 = gI σ 31) (e2 : gI τ 32 = gI σ 32) (e3 : gI τ 33 = gI σ 33) (e4 : gI τ 18 = gI σ 18) (e5 : aI τ 30 (vnZ O) = aI σ 30 (vnZ O)) : BhZ τ s O r := by
  unfold BhZ
  rw [e1, e2, e3, e4, e5]
  exact h
/-- whether a literal stands right behind a unary - -/
def gtZ (O : List OpZ) : Int := match O with
  | [] => 0
  | o :: _ => if o.1 = 0 ∧ o.2.1 = 35 then 1 else 0
/-- a sign ahead stands right ahead -/
def ahZ (O : List OpZ) (s : SpC) : Prop := match O with
  | [] => True
  | o :: _ => o.1 = 0 → o.2.2.1 + 1 = zAt s
/-- an operand or an exp to come -/
def wtM (N : Int → Int) (b : Int) (O : List OpZ) (n : Nat) (z : ZS) : ZS := if b = 1 then ewM N O n z else owM N (gtZ O) O n z
theorem wtM_1 {N : Int → Int} {O : List OpZ} {n : Nat} {z : ZS} : wtM N 1 O n z = ewM N O n z := if_pos rfl
theorem wtM_0 {N : Int → Int} {O : List OpZ} {n : Nat} {z : ZS} : wtM N 0 O n z = owM N (gtZ O) O n z := if_neg (by decide)
theorem gtZ_n {O : List OpZ} (h : ¬ tpZ O = 0) : gtZ O = 0 := by
  cases O with
  | nil => rfl
  | cons o O => exact if_neg (fun q => h q.1)
theorem wtM_o {N : Int → Int} {b : Int32} {O : List OpZ} {n : Nat} {z : ZS} (hb : bgR b (osZ O)) (hn : 1 ≤ n) (h : b = 0 ∨ nasY z.1) : wtM N b.toInt O n z = owM N (gtZ O) O n z := by
  rcases hb with rfl | ⟨rfl, hb⟩
  · exact wtM_0
  · rw [gtZ_n hb.1]
    exact wtM_1.trans (ew_beg hn hb (h.resolve_left (by decide)))
theorem lf_wt {N : Int → Int} {b : Int32} {O : List OpZ} {n : Nat} {z : ZS} (hb : bgR b (osZ O)) : (wtM N b.toInt O n z).1 = wtY b.toInt (osZ O) n z.1 := by
  rcases hb with rfl | ⟨rfl, hb⟩
  · exact (congrArg Prod.fst wtM_0).trans lf_ow
  · exact (congrArg Prod.fst wtM_1).trans lf_ew
/-- a sign's token -/
theorem tk_in {k w c : Int} (h : tkR k w c) (h0 : 0 ≤ c) (h1 : c ≤ 42) : (w, c) ∈ sgT := by
  rcases h with h | h | h | h | h | ⟨h, hw0, hw1, hc⟩ | h
  · omega
  · omega
  · omega
  · omega
  · omega
  · have := (wdR_b (w := w)).mp ⟨hw0, hw1⟩
    omega
  · exact h.2
/-- NUMBERS with and without L -/
def TlZ (σ : RS) (s : SpC) : Prop := ∀ i, i < nT (gI σ 2) → i ≤ 500 → aI σ 3 i = 2 → (aI σ 10 i = 0 ∧ zK s i = 81) ∨ (¬ aI σ 10 i = 0 ∧ zK s i = 82)
/-- what a call of operand, behind tells -/
def OpM (N th : Int → Int) (σ0 τ : RS) (Φ : ZS) (n0 : Nat) (w : Option Value) : Prop :=
  (w = some (.int 0) ∧ FlR τ Φ.1) ∨ (w = some (.int 1) ∧ ∃ (z : ZS) (n : Nat) (O : List OpZ), XrR σ0 τ z.1 n ∧ OzZ τ O ∧ n + nbY (osZ O) = n0 ∧ PcM th τ z ∧
    ((gI τ 34 = 1 ∧ (gI τ 31).toInt = vnZ O ∧ ((gI τ 35 = 0 ∧ ahZ O z.1 ∧ wtM N 0 O n z = Φ) ∨ (gI τ 35 = 1 ∧ bgT (osZ O) ∧ wtM N 1 O n z = Φ))) ∨ (gI τ 34 = 0 ∧ ∃ r, BhZ τ z.1 O r ∧ foM N O [] n r z = Φ)))
