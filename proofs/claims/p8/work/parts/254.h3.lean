theorem rd_key {ρ : RS} {x : TxY} {s : SpC} {n : Nat} (hok : okY x) (hx : (gI ρ 1).toInt = x.2 ∧ ∀ j, (aI ρ 0 j).toInt = x.1 j) (hZ : Z0Y s) (hT : TkS x s n) : ∀ (b : Int32) (T U : RS), EvM 6 [] ρ none T → EvM 37 [] T (some (.int b)) U → LxQ ρ T x ∧ ((some (Value.int b) = some (Value.int 0) ∧ FlR U (prlY 11 s)) ∨ (some (Value.int b) = some (Value.int 1) ∧ MhR U (prlY 11 s) ∧ codY (prlY 11 s) = 84)) := fun b T U e1 e2 => by
  have a : (none : Option Value) = none ∧ LxQ ρ T x := w_lexer [] ρ trivial none T e1 x ⟨hok, hx.1, hx.2⟩
  exact ⟨a.2, w_parse [] T trivial _ U e2 s ⟨sh_of hok a.2 hT hZ, hZ⟩⟩
/-- both halves answer alike; the text that is kept has its end, and the tokens that stand are its tokens -/
theorem rd_same {ρ ρ1 : RS} {r r2 : Int32} {s : SpC} {n : Nat} {A B : Prop} (hI : IV ρ) (hZ : Z0Y s) (hT : TkS (txR ρ) s n) (ha : (¬ zFt (prlY 11 s) = 0 ∧ r.toInt = -10 - zFt (prlY 11 s) ∧ A) ∨ (zFt (prlY 11 s) = 0 ∧ r.toInt = (zMs (prlY 11 s)).length ∧ B)) (h2 : RnR ρ r2 ρ1) : r = r2 ∧ ((A ∧ RnB2 ρ ρ1) ∨ (B ∧ EndY (txR ρ) n ∧ RtR ρ1 (txR ρ) n ∧ RnG3 ρ ρ1)) := by
  have hok := tx_ok hI
  have key := rd_key (ρ := ρ) hok ⟨rfl, fun _ => rfl⟩ hZ hT
  have e0 : (0 : Int32).toInt = 0 := rfl
  rcases h2 with ⟨e36, ⟨T, U, e1, e2, hkt, hkq⟩, hg3⟩ | ⟨⟨f, ⟨T, U, e1, e2, rfl⟩, rfl⟩, hb2⟩
  · obtain ⟨hL, q⟩ := key 1 T U e1 e2
    rcases q with ⟨q, -⟩ | ⟨-, hM, hc⟩
    · exact absurd (Value.int.inj (Option.some.inj q)) (by decide)
    · obtain ⟨hS, -, -, zm, ⟨z3, -⟩, -⟩ := id hM
      rcases ha with ⟨z, -⟩ | ⟨-, z, hB⟩
      · exact absurd hS.1.1 z
      · have hE : EndY (txR ρ) n := end_of hok hL hT (by unfold zK; rw [(gn_prl 11 s).1]) hc hS hkt.1
        refine ⟨?_, Or.inr ⟨hB, hE, ?_, hg3⟩⟩
        · apply Int32.toInt_inj.mp
          rw [z, zm, mlR_len, e36, hkq.1.2.1]
          show ((gI U 36).toInt.toNat : Int) = (gI U 36).toInt
          have y := Int32.le_iff_toInt_le.mp z3
          omega
        · have hR := lx_end hL hE
          have hR2 : RtR U (txR ρ) n := ⟨by rw [hkt.1]; exact hR.1, fun j hj => by
            have q := hR.2 j hj
            rw [hkt.2.1, hkt.2.2.1, hkt.2.2.2.1, hkt.2.2.2.2]
            exact q⟩
          exact hR2.k hkq
  · obtain ⟨-, q⟩ := key 0 T U e1 e2
    rcases q with ⟨-, nz, h15, -⟩ | ⟨q, -⟩
    · rcases ha with ⟨-, z, hA⟩ | ⟨z, -⟩
      · refine ⟨?_, Or.inl ⟨hA, hb2⟩⟩
        apply Int32.toInt_inj.mp
        have e10 : (-10 : Int32).toInt = -10 := by decide
        have y1 := Int32.le_toInt r
        have y2 := Int32.toInt_lt r
        have y3 : (-10 - gI U 15).toInt = r.toInt := subC (by rw [e10, h15, z]) (by omega) (by omega)
        exact y3.symm
      · exact absurd z nz
    · exact absurd (Value.int.inj (Option.some.inj q)) (by decide)
/-- the kept text, read again, has the same tokens -/
theorem rt_again {ρ ρ1 : RS} {y : TxY} {n : Nat} (h : RnB2 ρ ρ1) (hy : okY y) (h2 : y.2 = (gI ρ 119).toInt) (h1 : ∀ j : Nat, (j : Int) < y.2 → y.1 j = (aI ρ 118 j).toInt) (hE : EndY y n) : RtR ρ1 y n := by
  obtain ⟨⟨X, T, U, ⟨x1, x2, x3⟩, e1, e2, hkt, hkq⟩, -⟩ := h
  have e0 : (0 : Int32).toInt = 0 := rfl
  have e256 : (256 : Int32).toInt = 256 := rfl
  have hq : EqT y (txR X) := by
    refine ⟨?_, fun j hj => ?_⟩
    · show y.2 = (gI X 1).toInt
      rw [x1, h2]
    · show y.1 j = (aI X 0 j).toInt
      rw [h1 j hj, x3 j (by show j < (gI ρ 119).toInt.toNat; omega)]
  have hok : okY (txR X) := by
    refine ⟨fun j => ?_, ?_, ?_⟩
    · have y1 := Int32.le_iff_toInt_le.mp (x2 j).1
      have y2 := Int32.lt_iff_toInt_lt.mp (x2 j).2
      show 0 ≤ (aI X 0 j).toInt ∧ (aI X 0 j).toInt ≤ 255
      omega
    · rw [← hq.1]; exact hy.2.1
    · rw [← hq.1]; exact hy.2.2
  have a : (none : Option Value) = none ∧ LxQ X T (txR X) := w_lexer [] X trivial none T e1 (txR X) ⟨hok, rfl, fun _ => rfl⟩
  have hR := lx_end a.2 (hE.c hq)
  have hs : EqT (txR X) y := ⟨hq.1.symm, fun j hj => (hq.2 j (by rw [hq.1]; exact hj)).symm⟩
  have hR2 : RtR U y n := ⟨by rw [hkt.1]; exact hR.1, fun j hj => by
    have q := hR.2.c hs j hj
    rw [hkt.2.1, hkt.2.2.1, hkt.2.2.2.1, hkt.2.2.2.2]
    exact q⟩
  exact hR2.k hkq
