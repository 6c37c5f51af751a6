/-! the reference judges one code of an S -/
def So_21 (σ : RS) (c : Int32) (e : TvT) (vt : Int × Int) (rt kt : Int) : Prop := ¬ (aI σ 20 c.toNatClampNeg) = 0
def Sf_21 (σ : RS) (c : Int32) (e : TvT) (vt : Int × Int) (rt kt : Int) (τ : RS) : Prop := τ = sA (sI σ 69 (gI σ 69 - 1)) 82 (upd (aI σ 82) c.toNatClampNeg (aI σ 70 (gI σ 69 - 1).toNatClampNeg))
def So_22a (σ : RS) (c : Int32) (e : TvT) (vt : Int × Int) (rt kt : Int) : Prop := True
def Sf_22a (σ : RS) (c : Int32) (e : TvT) (vt : Int × Int) (rt kt : Int) (τ : RS) : Prop := τ = σ
def So_22b (σ : RS) (c : Int32) (e : TvT) (vt : Int × Int) (rt kt : Int) : Prop := (¬ (aI σ 21 c.toNatClampNeg) = 0 → ftT e vt.1)
def Sf_22b (σ : RS) (c : Int32) (e : TvT) (vt : Int × Int) (rt kt : Int) (τ : RS) : Prop := (aI σ 21 c.toNatClampNeg = 0 → τ = σ) ∧ (¬ aI σ 21 c.toNatClampNeg = 0 → ∃ su : Int32, (¬ su = 0 ↔ (¬ vt.2 = 0 ∧ ¬ e.2.1 = 0)) ∧ τ = sM (sA (sI σ 69 (gI σ 69 - 1)) 86 (upd (aI σ 86) (aI σ 20 c.toNatClampNeg).toNatClampNeg su)) 87 (vp_updL (aL σ 87) (aI σ 20 c.toNatClampNeg).toNatClampNeg (caT vt.1 (aL σ 72 (gI σ 69 - 1).toNatClampNeg))))
def So_23 (σ : RS) (c : Int32) (e : TvT) (vt : Int × Int) (rt kt : Int) : Prop := e.1 = 0
def Sf_23 (σ : RS) (c : Int32) (e : TvT) (vt : Int × Int) (rt kt : Int) (τ : RS) : Prop := ∃ su : Int32, (¬ su = 0 ↔ (e.1 = 0 ∧ ¬ e.2.1 = 0)) ∧ τ = keS (sI σ 69 (gI σ 69 - 1)) c su (aL σ 72 (gI σ 69 - 1).toNatClampNeg)
def So_33a (σ : RS) (c : Int32) (e : TvT) (vt : Int × Int) (rt kt : Int) : Prop := True
def Sf_33a (σ : RS) (c : Int32) (e : TvT) (vt : Int × Int) (rt kt : Int) (τ : RS) : Prop := τ = (sM (sA σ 84 (upd (aI σ 84) c.toNatClampNeg 1)) 85 (vp_updL (aL σ 85) c.toNatClampNeg 1))
def So_33b (σ : RS) (c : Int32) (e : TvT) (vt : Int × Int) (rt kt : Int) : Prop := e.1 = 0
def Sf_33b (σ : RS) (c : Int32) (e : TvT) (vt : Int × Int) (rt kt : Int) (τ : RS) : Prop := ∃ su : Int32, (¬ su = 0 ↔ (e.1 = 0 ∧ ¬ e.2.1 = 0)) ∧ τ = keS (sI (sM (sA σ 84 (upd (aI σ 84) c.toNatClampNeg 1)) 85 (vp_updL (aL σ 85) c.toNatClampNeg 1)) 69 (gI σ 69 - 1)) c su (aL σ 72 (gI σ 69 - 1).toNatClampNeg)
def So_37 (σ : RS) (c : Int32) (e : TvT) (vt : Int × Int) (rt kt : Int) : Prop := 1 ≤ e.1 ∧ e.1 ≤ 3
def Sf_37 (σ : RS) (c : Int32) (e : TvT) (vt : Int × Int) (rt kt : Int) (τ : RS) : Prop := τ = sA (sI σ 69 (gI σ 69 - 1)) 88 (upd (aI σ 88) (aI σ 20 c.toNatClampNeg).toNatClampNeg (aI σ 70 (gI σ 69 - 1).toNatClampNeg))
def So_38 (σ : RS) (c : Int32) (e : TvT) (vt : Int × Int) (rt kt : Int) : Prop := (¬ e.2.1 = 0 ∧ ftT e kt) ∧ ∀ o : Nat, (aI σ 51 (aI σ 20 c.toNatClampNeg).toNatClampNeg).toInt ≤ (o : Int) → (o : Int) < c.toInt → ¬ CeR σ c (aI σ 20 c.toNatClampNeg) (aL σ 72 (gI σ 69 - 1).toNatClampNeg) o
def Sf_38 (σ : RS) (c : Int32) (e : TvT) (vt : Int × Int) (rt kt : Int) (τ : RS) : Prop := τ = sA (sM (sA (sI σ 69 (gI σ 69 - 1)) 84 (upd (aI σ 84) c.toNatClampNeg 0)) 85 (vp_updL (aL σ 85) c.toNatClampNeg (aL σ 72 (gI σ 69 - 1).toNatClampNeg))) 84 (upd (upd (aI σ 84) c.toNatClampNeg 0) c.toNatClampNeg 1)
def So_39 (σ : RS) (c : Int32) (e : TvT) (vt : Int × Int) (rt kt : Int) : Prop := aI σ 59 (aI σ 20 c.toNatClampNeg).toNatClampNeg < 0
def Sf_39 (σ : RS) (c : Int32) (e : TvT) (vt : Int × Int) (rt kt : Int) (τ : RS) : Prop := τ = sA σ 59 (upd (aI σ 59) (aI σ 20 c.toNatClampNeg).toNatClampNeg c)
def So_41 (σ : RS) (c : Int32) (e : TvT) (vt : Int × Int) (rt kt : Int) : Prop := ∀ i : Int32, 0 ≤ i.toInt → i.toInt < (gI σ 91).toInt → ¬ sameR σ (aI σ 60 (aI σ 90 i.toNatClampNeg).toNatClampNeg).toNatClampNeg (aI σ 22 c.toNatClampNeg).toNatClampNeg
def Sf_41 (σ : RS) (c : Int32) (e : TvT) (vt : Int × Int) (rt kt : Int) (τ : RS) : Prop := τ = sI (sA (sA σ 80 (upd (aI σ 80) (aI σ 22 c.toNatClampNeg).toNatClampNeg 200)) 90 (upd (aI σ 90) (gI σ 91).toNatClampNeg (aI σ 20 c.toNatClampNeg))) 91 (gI σ 91 + 1)
def So_42 (σ : RS) (c : Int32) (e : TvT) (vt : Int × Int) (rt kt : Int) : Prop := True
def Sf_42 (σ : RS) (c : Int32) (e : TvT) (vt : Int × Int) (rt kt : Int) (τ : RS) : Prop := τ = sI σ 91 (gI σ 91 - 1)
def So_46 (σ : RS) (c : Int32) (e : TvT) (vt : Int × Int) (rt kt : Int) : Prop := 0 ≤ (aI σ 20 c.toNatClampNeg)
def Sf_46 (σ : RS) (c : Int32) (e : TvT) (vt : Int × Int) (rt kt : Int) (τ : RS) : Prop := (aI σ 3 (aI σ 22 c.toNatClampNeg).toNatClampNeg = 1 → τ = sA σ 80 (upd (aI σ 80) (aI σ 22 c.toNatClampNeg).toNatClampNeg 200)) ∧ (¬ aI σ 3 (aI σ 22 c.toNatClampNeg).toNatClampNeg = 1 → τ = σ)
def So_48 (σ : RS) (c : Int32) (e : TvT) (vt : Int × Int) (rt kt : Int) : Prop := (aI σ 20 c.toNatClampNeg = 0 → rt = 5) ∧ (¬ aI σ 20 c.toNatClampNeg = 0 → ¬ rt = 5 ∧ ftT e rt)
def Sf_48 (σ : RS) (c : Int32) (e : TvT) (vt : Int × Int) (rt kt : Int) (τ : RS) : Prop := (aI σ 20 c.toNatClampNeg = 0 → τ = σ) ∧ (¬ aI σ 20 c.toNatClampNeg = 0 → τ = sI σ 69 (gI σ 69 - 1))
def So_49 (σ : RS) (c : Int32) (e : TvT) (vt : Int × Int) (rt kt : Int) : Prop := ftT e 3
def Sf_49 (σ : RS) (c : Int32) (e : TvT) (vt : Int × Int) (rt kt : Int) (τ : RS) : Prop := τ = (sI σ 69 (gI σ 69 - 1))
def So_54 (σ : RS) (c : Int32) (e : TvT) (vt : Int × Int) (rt kt : Int) : Prop := True
def Sf_54 (σ : RS) (c : Int32) (e : TvT) (vt : Int × Int) (rt kt : Int) (τ : RS) : Prop := τ = sI σ 89 (gI σ 89 + 1)
def So_0 (σ : RS) (c : Int32) (e : TvT) (vt : Int × Int) (rt kt : Int) : Prop := True
def Sf_0 (σ : RS) (c : Int32) (e : TvT) (vt : Int × Int) (rt kt : Int) (τ : RS) : Prop := τ = σ
/-- what is asked and what comes, by the code -/
def StR (σ : RS) (c : Int32) (e : TvT) (vt : Int × Int) (rt kt : Int) (ok : Prop) (F : RS → Prop) : Prop := (((aI σ 19 c.toNatClampNeg).toInt = 21) ∧ ok = So_21 σ c e vt rt kt ∧ F = Sf_21 σ c e vt rt kt) ∨ (((aI σ 19 c.toNatClampNeg).toInt = 22 ∧ (aI σ 21 c.toNatClampNeg) = 2) ∧ ok = So_22a σ c e vt rt kt ∧ F = Sf_22a σ c e vt rt kt) ∨ (((aI σ 19 c.toNatClampNeg).toInt = 22 ∧ ¬ (aI σ 21 c.toNatClampNeg) = 2) ∧ ok = So_22b σ c e vt rt kt ∧ F = Sf_22b σ c e vt rt kt) ∨ ((((aI σ 19 c.toNatClampNeg).toInt = 23 ∨ (aI σ 19 c.toNatClampNeg).toInt = 27 ∨ (aI σ 19 c.toNatClampNeg).toInt = 31)) ∧ ok = So_23 σ c e vt rt kt ∧ F = Sf_23 σ c e vt rt kt) ∨ (((aI σ 19 c.toNatClampNeg).toInt = 33 ∧ (aI σ 21 c.toNatClampNeg) = 0) ∧ ok = So_33a σ c e vt rt kt ∧ F = Sf_33a σ c e vt rt kt) ∨ (((aI σ 19 c.toNatClampNeg).toInt = 33 ∧ ¬ (aI σ 21 c.toNatClampNeg) = 0) ∧ ok = So_33b σ c e vt rt kt ∧ F = Sf_33b σ c e vt rt kt) ∨ (((aI σ 19 c.toNatClampNeg).toInt = 37) ∧ ok = So_37 σ c e vt rt kt ∧ F = Sf_37 σ c e vt rt kt) ∨ (((aI σ 19 c.toNatClampNeg).toInt = 38) ∧ ok = So_38 σ c e vt rt kt ∧ F = Sf_38 σ c e vt rt kt) ∨ (((aI σ 19 c.toNatClampNeg).toInt = 39) ∧ ok = So_39 σ c e vt rt kt ∧ F = Sf_39 σ c e vt rt kt) ∨ (((aI σ 19 c.toNatClampNeg).toInt = 41) ∧ ok = So_41 σ c e vt rt kt ∧ F = Sf_41 σ c e vt rt kt) ∨ (((aI σ 19 c.toNatClampNeg).toInt = 42) ∧ ok = So_42 σ c e vt rt kt ∧ F = Sf_42 σ c e vt rt kt) ∨ ((((aI σ 19 c.toNatClampNeg).toInt = 46 ∨ (aI σ 19 c.toNatClampNeg).toInt = 47)) ∧ ok = So_46 σ c e vt rt kt ∧ F = Sf_46 σ c e vt rt kt) ∨ (((aI σ 19 c.toNatClampNeg).toInt = 48) ∧ ok = So_48 σ c e vt rt kt ∧ F = Sf_48 σ c e vt rt kt) ∨ (((aI σ 19 c.toNatClampNeg).toInt = 49) ∧ ok = So_49 σ c e vt rt kt ∧ F = Sf_49 σ c e vt rt kt) ∨ (((aI σ 19 c.toNatClampNeg).toInt = 54) ∧ ok = So_54 σ c e vt rt kt ∧ F = Sf_54 σ c e vt rt kt) ∨ ((¬ ((aI σ 19 c.toNatClampNeg).toInt = 21 ∨ (aI σ 19 c.toNatClampNeg).toInt = 22 ∨ (aI σ 19 c.toNatClampNeg).toInt = 23 ∨ (aI σ 19 c.toNatClampNeg).toInt = 27 ∨ (aI σ 19 c.toNatClampNeg).toInt = 31 ∨ (aI σ 19 c.toNatClampNeg).toInt = 33 ∨ (37 ≤ (aI σ 19 c.toNatClampNeg).toInt ∧ (aI σ 19 c.toNatClampNeg).toInt ≤ 39) ∨ (aI σ 19 c.toNatClampNeg).toInt = 41 ∨ (aI σ 19 c.toNatClampNeg).toInt = 42 ∨ (46 ≤ (aI σ 19 c.toNatClampNeg).toInt ∧ (aI σ 19 c.toNatClampNeg).toInt ≤ 49) ∨ (aI σ 19 c.toNatClampNeg).toInt = 54)) ∧ ok = So_0 σ c e vt rt kt ∧ F = Sf_0 σ c e vt rt kt)
theorem sr_21 {σ : RS} {c : Int32} {e : TvT} {vt : Int × Int} {rt kt : Int} (h : (aI σ 19 c.toNatClampNeg).toInt = 21) : StR σ c e vt rt kt (So_21 σ c e vt rt kt) (Sf_21 σ c e vt rt kt) := Or.inl ⟨h, rfl, rfl⟩
theorem sr_22a {σ : RS} {c : Int32} {e : TvT} {vt : Int × Int} {rt kt : Int} (h : (aI σ 19 c.toNatClampNeg).toInt = 22 ∧ (aI σ 21 c.toNatClampNeg) = 2) : StR σ c e vt rt kt (So_22a σ c e vt rt kt) (Sf_22a σ c e vt rt kt) := Or.inr (Or.inl ⟨h, rfl, rfl⟩)
theorem sr_22b {σ : RS} {c : Int32} {e : TvT} {vt : Int × Int} {rt kt : Int} (h : (aI σ 19 c.toNatClampNeg).toInt = 22 ∧ ¬ (aI σ 21 c.toNatClampNeg) = 2) : StR σ c e vt rt kt (So_22b σ c e vt rt kt) (Sf_22b σ c e vt rt kt) := Or.inr (Or.inr (Or.inl ⟨h, rfl, rfl⟩))
theorem sr_23 {σ : RS} {c : Int32} {e : TvT} {vt : Int × Int} {rt kt : Int} (h : ((aI σ 19 c.toNatClampNeg).toInt = 23 ∨ (aI σ 19 c.toNatClampNeg).toInt = 27 ∨ (aI σ 19 c.toNatClampNeg).toInt = 31)) : StR σ c e vt rt kt (So_23 σ c e vt rt kt) (Sf_23 σ c e vt rt kt) := Or.inr (Or.inr (Or.inr (Or.inl ⟨h, rfl, rfl⟩)))
theorem sr_33a {σ : RS} {c : Int32} {e : TvT} {vt : Int × Int} {rt kt : Int} (h : (aI σ 19 c.toNatClampNeg).toInt = 33 ∧ (aI σ 21 c.toNatClampNeg) = 0) : StR σ c e vt rt kt (So_33a σ c e vt rt kt) (Sf_33a σ c e vt rt kt) := Or.inr (Or.inr (Or.inr (Or.inr (Or.inl ⟨h, rfl, rfl⟩))))
theorem sr_33b {σ : RS} {c : Int32} {e : TvT} {vt : Int × Int} {rt kt : Int} (h : (aI σ 19 c.toNatClampNeg).toInt = 33 ∧ ¬ (aI σ 21 c.toNatClampNeg) = 0) : StR σ c e vt rt kt (So_33b σ c e vt rt kt) (Sf_33b σ c e vt rt kt) := Or.inr (Or.inr (Or.inr (Or.inr (Or.inr (Or.inl ⟨h, rfl, rfl⟩)))))
theorem sr_37 {σ : RS} {c : Int32} {e : TvT} {vt : Int × Int} {rt kt : Int} (h : (aI σ 19 c.toNatClampNeg).toInt = 37) : StR σ c e vt rt kt (So_37 σ c e vt rt kt) (Sf_37 σ c e vt rt kt) := Or.inr (Or.inr (Or.inr (Or.inr (Or.inr (Or.inr (Or.inl ⟨h, rfl, rfl⟩))))))
theorem sr_38 {σ : RS} {c : Int32} {e : TvT} {vt : Int × Int} {rt kt : Int} (h : (aI σ 19 c.toNatClampNeg).toInt = 38) : StR σ c e vt rt kt (So_38 σ c e vt rt kt) (Sf_38 σ c e vt rt kt) := Or.inr (Or.inr (Or.inr (Or.inr (Or.inr (Or.inr (Or.inr (Or.inl ⟨h, rfl, rfl⟩)))))))
theorem sr_39 {σ : RS} {c : Int32} {e : TvT} {vt : Int × Int} {rt kt : Int} (h : (aI σ 19 c.toNatClampNeg).toInt = 39) : StR σ c e vt rt kt (So_39 σ c e vt rt kt) (Sf_39 σ c e vt rt kt) := Or.inr (Or.inr (Or.inr (Or.inr (Or.inr (Or.inr (Or.inr (Or.inr (Or.inl ⟨h, rfl, rfl⟩))))))))
theorem sr_41 {σ : RS} {c : Int32} {e : TvT} {vt : Int × Int} {rt kt : Int} (h : (aI σ 19 c.toNatClampNeg).toInt = 41) : StR σ c e vt rt kt (So_41 σ c e vt rt kt) (Sf_41 σ c e vt rt kt) := Or.inr (Or.inr (Or.inr (Or.inr (Or.inr (Or.inr (Or.inr (Or.inr (Or.inr (Or.inl ⟨h, rfl, rfl⟩)))))))))
theorem sr_42 {σ : RS} {c : Int32} {e : TvT} {vt : Int × Int} {rt kt : Int} (h : (aI σ 19 c.toNatClampNeg).toInt = 42) : StR σ c e vt rt kt (So_42 σ c e vt rt kt) (Sf_42 σ c e vt rt kt) := Or.inr (Or.inr (Or.inr (Or.inr (Or.inr (Or.inr (Or.inr (Or.inr (Or.inr (Or.inr (Or.inl ⟨h, rfl, rfl⟩))))))))))
theorem sr_46 {σ : RS} {c : Int32} {e : TvT} {vt : Int × Int} {rt kt : Int} (h : ((aI σ 19 c.toNatClampNeg).toInt = 46 ∨ (aI σ 19 c.toNatClampNeg).toInt = 47)) : StR σ c e vt rt kt (So_46 σ c e vt rt kt) (Sf_46 σ c e vt rt kt) := Or.inr (Or.inr (Or.inr (Or.inr (Or.inr (Or.inr (Or.inr (Or.inr (Or.inr (Or.inr (Or.inr (Or.inl ⟨h, rfl, rfl⟩)))))))))))
theorem sr_48 {σ : RS} {c : Int32} {e : TvT} {vt : Int × Int} {rt kt : Int} (h : (aI σ 19 c.toNatClampNeg).toInt = 48) : StR σ c e vt rt kt (So_48 σ c e vt rt kt) (Sf_48 σ c e vt rt kt) := Or.inr (Or.inr (Or.inr (Or.inr (Or.inr (Or.inr (Or.inr (Or.inr (Or.inr (Or.inr (Or.inr (Or.inr (Or.inl ⟨h, rfl, rfl⟩))))))))))))
theorem sr_49 {σ : RS} {c : Int32} {e : TvT} {vt : Int × Int} {rt kt : Int} (h : (aI σ 19 c.toNatClampNeg).toInt = 49) : StR σ c e vt rt kt (So_49 σ c e vt rt kt) (Sf_49 σ c e vt rt kt) := Or.inr (Or.inr (Or.inr (Or.inr (Or.inr (Or.inr (Or.inr (Or.inr (Or.inr (Or.inr (Or.inr (Or.inr (Or.inr (Or.inl ⟨h, rfl, rfl⟩)))))))))))))
theorem sr_54 {σ : RS} {c : Int32} {e : TvT} {vt : Int × Int} {rt kt : Int} (h : (aI σ 19 c.toNatClampNeg).toInt = 54) : StR σ c e vt rt kt (So_54 σ c e vt rt kt) (Sf_54 σ c e vt rt kt) := Or.inr (Or.inr (Or.inr (Or.inr (Or.inr (Or.inr (Or.inr (Or.inr (Or.inr (Or.inr (Or.inr (Or.inr (Or.inr (Or.inr (Or.inl ⟨h, rfl, rfl⟩))))))))))))))
theorem sr_0 {σ : RS} {c : Int32} {e : TvT} {vt : Int × Int} {rt kt : Int} (h : ¬ ((aI σ 19 c.toNatClampNeg).toInt = 21 ∨ (aI σ 19 c.toNatClampNeg).toInt = 22 ∨ (aI σ 19 c.toNatClampNeg).toInt = 23 ∨ (aI σ 19 c.toNatClampNeg).toInt = 27 ∨ (aI σ 19 c.toNatClampNeg).toInt = 31 ∨ (aI σ 19 c.toNatClampNeg).toInt = 33 ∨ (37 ≤ (aI σ 19 c.toNatClampNeg).toInt ∧ (aI σ 19 c.toNatClampNeg).toInt ≤ 39) ∨ (aI σ 19 c.toNatClampNeg).toInt = 41 ∨ (aI σ 19 c.toNatClampNeg).toInt = 42 ∨ (46 ≤ (aI σ 19 c.toNatClampNeg).toInt ∧ (aI σ 19 c.toNatClampNeg).toInt ≤ 49) ∨ (aI σ 19 c.toNatClampNeg).toInt = 54)) : StR σ c e vt rt kt (So_0 σ c e vt rt kt) (Sf_0 σ c e vt rt kt) := Or.inr (Or.inr (Or.inr (Or.inr (Or.inr (Or.inr (Or.inr (Or.inr (Or.inr (Or.inr (Or.inr (Or.inr (Or.inr (Or.inr (Or.inr (⟨h, rfl, rfl⟩)))))))))))))))
def Pv_judgeStepA : UP1 := fun A1 σ => match A1 with
  | [.int c] => ¬ gI σ 66 = 0
  | _ => False
def Qv_judgeStepA : UQ1 := fun A1 σ w τ => match A1 with
  | [.int c] => w = none ∧ ¬ gI τ 66 = 0
  | _ => False
def Qw_judgeStepA : UQ1 := fun A1 σ w τ => Pv_judgeStepA A1 σ → Qv_judgeStepA A1 σ w τ
set_option maxRecDepth 100000 in
set_option maxHeartbeats 4000000 in
theorem v_judgeStepA : UMet 105 (Pv_judgeStepA) (Qv_judgeStepA) := by
  refine UMet.by BjudgeStep [(108, (fun _ _ => True), Qw_casedA), (107, (fun _ _ => True), Qw_declaredA), (70, (fun _ _ => True), Qw_err), (75, (fun _ _ => True), Qw_fits), (79, (fun _ _ => True), Qw_isBad), (106, (fun _ _ => True), Qw_keep), (80, (fun _ _ => True), Qw_need), (109, (fun _ _ => True), Qw_returnsA), (63, (fun _ _ => True), Qw_sameNameZ)] rfl (ucc w_casedA (ucc w_declaredA (ucc w_err (ucc w_fits (ucc w_isBad (ucc w_keep (ucc w_need (ucc w_returnsA (ucc w_sameNameZ uc0))))))))) ?_
  intro A1 σ hP K hB hW
  unfold Pv_judgeStepA at hP
  split at hP
  next c =>
    have all : ∀ N : Nat, (∀ (x1 : Int32) (Y : RS), ¬ gI Y 66 = 0 → K N 0 [(0, .ref 1000), (1, .int x1)] [] Y) ∧ (∀ (x1 : Int32) (x2 : Int32) (x3 : Int32) (Y : RS), ¬ gI Y 66 = 0 → K N 172 [(0, .ref 1000), (1, .int x1), (2, .int x2), (3, .int x3)] [] Y) ∧ (∀ (x1 : Int32) (x2 : Int32) (x3 : Int32) (Y : RS), ¬ gI Y 66 = 0 → K N 201 [(0, .ref 1000), (1, .int x1), (2, .int x2), (3, .int x3)] [] Y) ∧ (∀ (x1 : Int32) (x2 : Int32) (x3 : Int32) (Y : RS), ¬ gI Y 66 = 0 → K N 208 [(0, .ref 1000), (1, .int x1), (2, .int x2), (3, .int x3)] [] Y) ∧ (∀ (x1 : Int32) (x2 : Int32) (x3 : Int32) (Y : RS), ¬ gI Y 66 = 0 → K N 209 [(0, .ref 1000), (1, .int x1), (2, .int x2), (3, .int x3)] [] Y) ∧ (∀ (x1 : Int32) (x2 : Int32) (x3 : Int32) (Y : RS), ¬ gI Y 66 = 0 → K N 219 [(0, .ref 1000), (1, .int x1), (2, .int x2), (3, .int x3)] [] Y) ∧ (∀ (x1 : Int32) (x2 : Int32) (x3 : Int32) (Y : RS), ¬ gI Y 66 = 0 → K N 225 [(0, .ref 1000), (1, .int x1), (2, .int x2), (3, .int x3)] [] Y) ∧ (∀ (x1 : Int32) (x2 : Int32) (x3 : Int32) (Y : RS), ¬ gI Y 66 = 0 → K N 226 [(0, .ref 1000), (1, .int x1), (2, .int x2), (3, .int x3)] [] Y) ∧ (∀ (x1 : Int32) (x2 : Int32) (x3 : Int32) (Y : RS), ¬ gI Y 66 = 0 → K N 253 [(0, .ref 1000), (1, .int x1), (2, .int x2), (3, .int x3)] [] Y) ∧ (∀ (x1 : Int32) (x2 : Int32) (x3 : Int32) (Y : RS), ¬ gI Y 66 = 0 → K N 276 [(0, .ref 1000), (1, .int x1), (2, .int x2), (3, .int x3)] [] Y) ∧ (∀ (x1 : Int32) (x2 : Int32) (x3 : Int32) (Y : RS), ¬ gI Y 66 = 0 → K N 277 [(0, .ref 1000), (1, .int x1), (2, .int x2), (3, .int x3)] [] Y) ∧ (∀ (x1 : Int32) (x2 : Int32) (x3 : Int32) (Y : RS), ¬ gI Y 66 = 0 → K N 304 [(0, .ref 1000), (1, .int x1), (2, .int x2), (3, .int x3)] [] Y) ∧ (∀ (x1 : Int32) (x2 : Int32) (x3 : Int32) (Y : RS), ¬ gI Y 66 = 0 → K N 340 [(0, .ref 1000), (1, .int x1), (2, .int x2), (3, .int x3)] [] Y) ∧ (∀ (x1 : Int32) (x2 : Int32) (x3 : Int32) (Y : RS), ¬ gI Y 66 = 0 → K N 353 [(0, .ref 1000), (1, .int x1), (2, .int x2), (3, .int x3)] [] Y) ∧ (∀ (x1 : Int32) (x2 : Int32) (x3 : Int32) (Y : RS), ¬ gI Y 66 = 0 → K N 366 [(0, .ref 1000), (1, .int x1), (2, .int x2), (3, .int x3)] [] Y) ∧ (∀ (x1 : Int32) (x2 : Int32) (x3 : Int32) (Y : RS), ¬ gI Y 66 = 0 → K N 388 [(0, .ref 1000), (1, .int x1), (2, .int x2), (3, .int x3)] [] Y) ∧ (∀ (x1 : Int32) (x2 : Int32) (x3 : Int32) (Y : RS), ¬ gI Y 66 = 0 → K N 389 [(0, .ref 1000), (1, .int x1), (2, .int x2), (3, .int x3)] [] Y) ∧ (∀ (x1 : Int32) (x2 : Int32) (x3 : Int32) (Y : RS), ¬ gI Y 66 = 0 → K N 396 [(0, .ref 1000), (1, .int x1), (2, .int x2), (3, .int x3)] [] Y) ∧ (∀ (x1 : Int32) (x2 : Int32) (x3 : Int32) (Y : RS), ¬ gI Y 66 = 0 → K N 405 [(0, .ref 1000), (1, .int x1), (2, .int x2), (3, .int x3)] [] Y) ∧ (∀ (x1 : Int32) (x2 : Int32) (x3 : Int32) (Y : RS), ¬ gI Y 66 = 0 → K N 415 [(0, .ref 1000), (1, .int x1), (2, .int x2), (3, .int x3)] [] Y) ∧ (∀ (x1 : Int32) (x2 : Int32) (x3 : Int32) (Y : RS), ¬ gI Y 66 = 0 → K N 422 [(0, .ref 1000), (1, .int x1), (2, .int x2), (3, .int x3)] [] Y) ∧ (∀ (x1 : Int32) (x2 : Int32) (x3 : Int32) (Y : RS), ¬ gI Y 66 = 0 → K N 423 [(0, .ref 1000), (1, .int x1), (2, .int x2), (3, .int x3)] [] Y) ∧ (∀ (x1 : Int32) (x2 : Int32) (x3 : Int32) (x6 : Int32) (Y : RS), ¬ gI Y 66 = 0 → K N 435 [(0, .ref 1000), (1, .int x1), (2, .int x2), (3, .int x3), (6, .int x6)] [] Y) ∧ (∀ (x1 : Int32) (x2 : Int32) (x3 : Int32) (x6 : Int32) (Y : RS), ¬ gI Y 66 = 0 → K N 444 [(0, .ref 1000), (1, .int x1), (2, .int x2), (3, .int x3), (6, .int x6)] [] Y) ∧ (∀ (x1 : Int32) (x2 : Int32) (x3 : Int32) (x6 : Int32) (Y : RS), ¬ gI Y 66 = 0 → K N 464 [(0, .ref 1000), (1, .int x1), (2, .int x2), (3, .int x3), (6, .int x6)] [] Y) ∧ (∀ (x1 : Int32) (x2 : Int32) (x3 : Int32) (x6 : Int32) (Y : RS), ¬ gI Y 66 = 0 → K N 471 [(0, .ref 1000), (1, .int x1), (2, .int x2), (3, .int x3), (6, .int x6)] [] Y) ∧ (∀ (x1 : Int32) (x2 : Int32) (x3 : Int32) (x6 : Int32) (Y : RS), ¬ gI Y 66 = 0 → K N 477 [(0, .ref 1000), (1, .int x1), (2, .int x2), (3, .int x3), (6, .int x6)] [] Y) ∧ (∀ (x1 : Int32) (x2 : Int32) (x3 : Int32) (Y : RS), ¬ gI Y 66 = 0 → K N 498 [(0, .ref 1000), (1, .int x1), (2, .int x2), (3, .int x3)] [] Y) ∧ (∀ (x1 : Int32) (x2 : Int32) (x3 : Int32) (Y : RS), ¬ gI Y 66 = 0 → K N 509 [(0, .ref 1000), (1, .int x1), (2, .int x2), (3, .int x3)] [] Y) ∧ (∀ (x1 : Int32) (x2 : Int32) (x3 : Int32) (Y : RS), ¬ gI Y 66 = 0 → K N 519 [(0, .ref 1000), (1, .int x1), (2, .int x2), (3, .int x3)] [] Y) ∧ (∀ (x1 : Int32) (x2 : Int32) (x3 : Int32) (Y : RS), ¬ gI Y 66 = 0 → K N 528 [(0, .ref 1000), (1, .int x1), (2, .int x2), (3, .int x3)] [] Y) ∧ (∀ (x1 : Int32) (x2 : Int32) (x3 : Int32) (Y : RS), ¬ gI Y 66 = 0 → K N 532 [(0, .ref 1000), (1, .int x1), (2, .int x2), (3, .int x3)] [] Y) ∧ (∀ (x1 : Int32) (x2 : Int32) (x3 : Int32) (Y : RS), ¬ gI Y 66 = 0 → K N 539 [(0, .ref 1000), (1, .int x1), (2, .int x2), (3, .int x3)] [] Y) ∧ (∀ (x1 : Int32) (x2 : Int32) (x3 : Int32) (Y : RS), ¬ gI Y 66 = 0 → K N 540 [(0, .ref 1000), (1, .int x1), (2, .int x2), (3, .int x3)] [] Y) ∧ (∀ (x1 : Int32) (x2 : Int32) (x3 : Int32) (Y : RS), ¬ gI Y 66 = 0 → K N 547 [(0, .ref 1000), (1, .int x1), (2, .int x2), (3, .int x3)] [] Y) ∧ (∀ (x1 : Int32) (x2 : Int32) (x3 : Int32) (Y : RS), ¬ gI Y 66 = 0 → K N 568 [(0, .ref 1000), (1, .int x1), (2, .int x2), (3, .int x3)] [] Y) ∧ (∀ (x1 : Int32) (x2 : Int32) (x3 : Int32) (Y : RS), ¬ gI Y 66 = 0 → K N 580 [(0, .ref 1000), (1, .int x1), (2, .int x2), (3, .int x3)] [] Y) ∧ (∀ (x1 : Int32) (x2 : Int32) (x3 : Int32) (Y : RS), ¬ gI Y 66 = 0 → K N 594 [(0, .ref 1000), (1, .int x1), (2, .int x2), (3, .int x3)] [] Y) ∧ (∀ (x1 : Int32) (x2 : Int32) (x3 : Int32) (Y : RS), ¬ gI Y 66 = 0 → K N 595 [(0, .ref 1000), (1, .int x1), (2, .int x2), (3, .int x3)] [] Y) ∧ (∀ (x1 : Int32) (x2 : Int32) (x3 : Int32) (Y : RS), ¬ gI Y 66 = 0 → K N 606 [(0, .ref 1000), (1, .int x1), (2, .int x2), (3, .int x3)] [] Y) := by
      intro N
      induction N using Nat.strongRecOn with
      | ind N ih =>
        refine ⟨?_, ?_, ?_, ?_, ?_, ?_, ?_, ?_, ?_, ?_, ?_, ?_, ?_, ?_, ?_, ?_, ?_, ?_, ?_, ?_, ?_, ?_, ?_, ?_, ?_, ?_, ?_, ?_, ?_, ?_, ?_, ?_, ?_, ?_, ?_, ?_, ?_, ?_, ?_, ?_⟩
        · intro x1 Y hz
          refine hB _ _ _ _ _ (fun m1 hm1 => ?_)
          dsimp only [ugo, uwp, ust, uct, rfd, BjudgeStep, BjudgeStep_0, Nat.beq, lv_args, rlk, rs1, rs2, rdl, rky, rcd, rno, rsw, Value.category, List.filter, List.take, List.drop, List.reverse, List.reverseAux, List.cons_append, List.nil_append, Option.toList, Int.toNat, Int.reduceToNat, if_pos, if_neg, reduceIte, ↓reduceIte, Nat.reduceAdd, Nat.reduceEqDiff, Nat.reduceBEq, beq_self_eq_true, Bool.not_true, Bool.not_false, Bool.and_true, Bool.and_false, Bool.true_and, Bool.false_and, gI_sI, gI_sL, gI_sA, gI_sM, gL_sI, gL_sL, gL_sA, gL_sM, aI_sI, aI_sL, aI_sA, aI_sM, aL_sI, aL_sL, aL_sA, aL_sM]; try dsimp only
          intro p2
          intro p3
          intro p4
          refine ⟨fun h5 => ?_, fun h5 => ?_⟩
          · exact hW _ 172 [(0, .ref 1000), (1, .int x1), (2, .int ((aI Y 20) (x1).toNatClampNeg)), (3, .int ((aI Y 22) (x1).toNatClampNeg))] _ _ _ (by simp [rdl, rky, Value.category]) ((ih m1 hm1).2.1 x1 ((aI Y 20) (x1).toNatClampNeg) ((aI Y 22) (x1).toNatClampNeg) _ hz)
          refine ⟨fun h6 => ?_, fun h6 => ?_⟩
          · exact hW _ 209 [(0, .ref 1000), (1, .int x1), (2, .int ((aI Y 20) (x1).toNatClampNeg)), (3, .int ((aI Y 22) (x1).toNatClampNeg))] _ _ _ (by simp [rdl, rky, Value.category]) ((ih m1 hm1).2.2.2.2.1 x1 ((aI Y 20) (x1).toNatClampNeg) ((aI Y 22) (x1).toNatClampNeg) _ hz)
          refine ⟨fun h7 => ?_, fun h7 => ?_⟩
          · exact hW _ 226 [(0, .ref 1000), (1, .int x1), (2, .int ((aI Y 20) (x1).toNatClampNeg)), (3, .int ((aI Y 22) (x1).toNatClampNeg))] _ _ _ (by simp [rdl, rky, Value.category]) ((ih m1 hm1).2.2.2.2.2.2.2.1 x1 ((aI Y 20) (x1).toNatClampNeg) ((aI Y 22) (x1).toNatClampNeg) _ hz)
          refine ⟨fun h8 => ?_, fun h8 => ?_⟩
          · exact hW _ 606 [(0, .ref 1000), (1, .int x1), (2, .int ((aI Y 20) (x1).toNatClampNeg)), (3, .int ((aI Y 22) (x1).toNatClampNeg))] _ _ _ (by simp [rdl, rky, Value.category]) ((ih m1 hm1).2.2.2.2.2.2.2.2.2.2.2.2.2.2.2.2.2.2.2.2.2.2.2.2.2.2.2.2.2.2.2.2.2.2.2.2.2.2.2 x1 ((aI Y 20) (x1).toNatClampNeg) ((aI Y 22) (x1).toNatClampNeg) _ hz)
          refine ⟨fun h9 => ?_, fun h9 => ?_⟩
          · exact hW _ 606 [(0, .ref 1000), (1, .int x1), (2, .int ((aI Y 20) (x1).toNatClampNeg)), (3, .int ((aI Y 22) (x1).toNatClampNeg))] _ _ _ (by simp [rdl, rky, Value.category]) ((ih m1 hm1).2.2.2.2.2.2.2.2.2.2.2.2.2.2.2.2.2.2.2.2.2.2.2.2.2.2.2.2.2.2.2.2.2.2.2.2.2.2.2 x1 ((aI Y 20) (x1).toNatClampNeg) ((aI Y 22) (x1).toNatClampNeg) _ hz)
          refine ⟨fun h10 => ?_, fun h10 => ?_⟩
          · exact hW _ 606 [(0, .ref 1000), (1, .int x1), (2, .int ((aI Y 20) (x1).toNatClampNeg)), (3, .int ((aI Y 22) (x1).toNatClampNeg))] _ _ _ (by simp [rdl, rky, Value.category]) ((ih m1 hm1).2.2.2.2.2.2.2.2.2.2.2.2.2.2.2.2.2.2.2.2.2.2.2.2.2.2.2.2.2.2.2.2.2.2.2.2.2.2.2 x1 ((aI Y 20) (x1).toNatClampNeg) ((aI Y 22) (x1).toNatClampNeg) _ hz)
          refine ⟨fun h11 => ?_, fun h11 => ?_⟩
          · exact hW _ 226 [(0, .ref 1000), (1, .int x1), (2, .int ((aI Y 20) (x1).toNatClampNeg)), (3, .int ((aI Y 22) (x1).toNatClampNeg))] _ _ _ (by simp [rdl, rky, Value.category]) ((ih m1 hm1).2.2.2.2.2.2.2.1 x1 ((aI Y 20) (x1).toNatClampNeg) ((aI Y 22) (x1).toNatClampNeg) _ hz)
          refine ⟨fun h12 => ?_, fun h12 => ?_⟩
          · exact hW _ 606 [(0, .ref 1000), (1, .int x1), (2, .int ((aI Y 20) (x1).toNatClampNeg)), (3, .int ((aI Y 22) (x1).toNatClampNeg))] _ _ _ (by simp [rdl, rky, Value.category]) ((ih m1 hm1).2.2.2.2.2.2.2.2.2.2.2.2.2.2.2.2.2.2.2.2.2.2.2.2.2.2.2.2.2.2.2.2.2.2.2.2.2.2.2 x1 ((aI Y 20) (x1).toNatClampNeg) ((aI Y 22) (x1).toNatClampNeg) _ hz)
          refine ⟨fun h13 => ?_, fun h13 => ?_⟩
          · exact hW _ 606 [(0, .ref 1000), (1, .int x1), (2, .int ((aI Y 20) (x1).toNatClampNeg)), (3, .int ((aI Y 22) (x1).toNatClampNeg))] _ _ _ (by simp [rdl, rky, Value.category]) ((ih m1 hm1).2.2.2.2.2.2.2.2.2.2.2.2.2.2.2.2.2.2.2.2.2.2.2.2.2.2.2.2.2.2.2.2.2.2.2.2.2.2.2 x1 ((aI Y 20) (x1).toNatClampNeg) ((aI Y 22) (x1).toNatClampNeg) _ hz)
          refine ⟨fun h14 => ?_, fun h14 => ?_⟩
          · exact hW _ 606 [(0, .ref 1000), (1, .int x1), (2, .int ((aI Y 20) (x1).toNatClampNeg)), (3, .int ((aI Y 22) (x1).toNatClampNeg))] _ _ _ (by simp [rdl, rky, Value.category]) ((ih m1 hm1).2.2.2.2.2.2.2.2.2.2.2.2.2.2.2.2.2.2.2.2.2.2.2.2.2.2.2.2.2.2.2.2.2.2.2.2.2.2.2 x1 ((aI Y 20) (x1).toNatClampNeg) ((aI Y 22) (x1).toNatClampNeg) _ hz)
          refine ⟨fun h15 => ?_, fun h15 => ?_⟩
          · exact hW _ 226 [(0, .ref 1000), (1, .int x1), (2, .int ((aI Y 20) (x1).toNatClampNeg)), (3, .int ((aI Y 22) (x1).toNatClampNeg))] _ _ _ (by simp [rdl, rky, Value.category]) ((ih m1 hm1).2.2.2.2.2.2.2.1 x1 ((aI Y 20) (x1).toNatClampNeg) ((aI Y 22) (x1).toNatClampNeg) _ hz)
          refine ⟨fun h16 => ?_, fun h16 => ?_⟩
          · exact hW _ 606 [(0, .ref 1000), (1, .int x1), (2, .int ((aI Y 20) (x1).toNatClampNeg)), (3, .int ((aI Y 22) (x1).toNatClampNeg))] _ _ _ (by simp [rdl, rky, Value.category]) ((ih m1 hm1).2.2.2.2.2.2.2.2.2.2.2.2.2.2.2.2.2.2.2.2.2.2.2.2.2.2.2.2.2.2.2.2.2.2.2.2.2.2.2 x1 ((aI Y 20) (x1).toNatClampNeg) ((aI Y 22) (x1).toNatClampNeg) _ hz)
          refine ⟨fun h17 => ?_, fun h17 => ?_⟩
          · exact hW _ 253 [(0, .ref 1000), (1, .int x1), (2, .int ((aI Y 20) (x1).toNatClampNeg)), (3, .int ((aI Y 22) (x1).toNatClampNeg))] _ _ _ (by simp [rdl, rky, Value.category]) ((ih m1 hm1).2.2.2.2.2.2.2.2.1 x1 ((aI Y 20) (x1).toNatClampNeg) ((aI Y 22) (x1).toNatClampNeg) _ hz)
          refine ⟨fun h18 => ?_, fun h18 => ?_⟩
          · exact hW _ 606 [(0, .ref 1000), (1, .int x1), (2, .int ((aI Y 20) (x1).toNatClampNeg)), (3, .int ((aI Y 22) (x1).toNatClampNeg))] _ _ _ (by simp [rdl, rky, Value.category]) ((ih m1 hm1).2.2.2.2.2.2.2.2.2.2.2.2.2.2.2.2.2.2.2.2.2.2.2.2.2.2.2.2.2.2.2.2.2.2.2.2.2.2.2 x1 ((aI Y 20) (x1).toNatClampNeg) ((aI Y 22) (x1).toNatClampNeg) _ hz)
          refine ⟨fun h19 => ?_, fun h19 => ?_⟩
          · exact hW _ 606 [(0, .ref 1000), (1, .int x1), (2, .int ((aI Y 20) (x1).toNatClampNeg)), (3, .int ((aI Y 22) (x1).toNatClampNeg))] _ _ _ (by simp [rdl, rky, Value.category]) ((ih m1 hm1).2.2.2.2.2.2.2.2.2.2.2.2.2.2.2.2.2.2.2.2.2.2.2.2.2.2.2.2.2.2.2.2.2.2.2.2.2.2.2 x1 ((aI Y 20) (x1).toNatClampNeg) ((aI Y 22) (x1).toNatClampNeg) _ hz)
          refine ⟨fun h20 => ?_, fun h20 => ?_⟩
          · exact hW _ 606 [(0, .ref 1000), (1, .int x1), (2, .int ((aI Y 20) (x1).toNatClampNeg)), (3, .int ((aI Y 22) (x1).toNatClampNeg))] _ _ _ (by simp [rdl, rky, Value.category]) ((ih m1 hm1).2.2.2.2.2.2.2.2.2.2.2.2.2.2.2.2.2.2.2.2.2.2.2.2.2.2.2.2.2.2.2.2.2.2.2.2.2.2.2 x1 ((aI Y 20) (x1).toNatClampNeg) ((aI Y 22) (x1).toNatClampNeg) _ hz)
          refine ⟨fun h21 => ?_, fun h21 => ?_⟩
          · exact hW _ 304 [(0, .ref 1000), (1, .int x1), (2, .int ((aI Y 20) (x1).toNatClampNeg)), (3, .int ((aI Y 22) (x1).toNatClampNeg))] _ _ _ (by simp [rdl, rky, Value.category]) ((ih m1 hm1).2.2.2.2.2.2.2.2.2.2.2.1 x1 ((aI Y 20) (x1).toNatClampNeg) ((aI Y 22) (x1).toNatClampNeg) _ hz)
          refine ⟨fun h22 => ?_, fun h22 => ?_⟩
          · exact hW _ 389 [(0, .ref 1000), (1, .int x1), (2, .int ((aI Y 20) (x1).toNatClampNeg)), (3, .int ((aI Y 22) (x1).toNatClampNeg))] _ _ _ (by simp [rdl, rky, Value.category]) ((ih m1 hm1).2.2.2.2.2.2.2.2.2.2.2.2.2.2.2.2.1 x1 ((aI Y 20) (x1).toNatClampNeg) ((aI Y 22) (x1).toNatClampNeg) _ hz)
          refine ⟨fun h23 => ?_, fun h23 => ?_⟩
          · exact hW _ 396 [(0, .ref 1000), (1, .int x1), (2, .int ((aI Y 20) (x1).toNatClampNeg)), (3, .int ((aI Y 22) (x1).toNatClampNeg))] _ _ _ (by simp [rdl, rky, Value.category]) ((ih m1 hm1).2.2.2.2.2.2.2.2.2.2.2.2.2.2.2.2.2.1 x1 ((aI Y 20) (x1).toNatClampNeg) ((aI Y 22) (x1).toNatClampNeg) _ hz)
          refine ⟨fun h24 => ?_, fun h24 => ?_⟩
          · exact hW _ 606 [(0, .ref 1000), (1, .int x1), (2, .int ((aI Y 20) (x1).toNatClampNeg)), (3, .int ((aI Y 22) (x1).toNatClampNeg))] _ _ _ (by simp [rdl, rky, Value.category]) ((ih m1 hm1).2.2.2.2.2.2.2.2.2.2.2.2.2.2.2.2.2.2.2.2.2.2.2.2.2.2.2.2.2.2.2.2.2.2.2.2.2.2.2 x1 ((aI Y 20) (x1).toNatClampNeg) ((aI Y 22) (x1).toNatClampNeg) _ hz)
          refine ⟨fun h25 => ?_, fun h25 => ?_⟩
          · exact hW _ 423 [(0, .ref 1000), (1, .int x1), (2, .int ((aI Y 20) (x1).toNatClampNeg)), (3, .int ((aI Y 22) (x1).toNatClampNeg))] _ _ _ (by simp [rdl, rky, Value.category]) ((ih m1 hm1).2.2.2.2.2.2.2.2.2.2.2.2.2.2.2.2.2.2.2.2.2.1 x1 ((aI Y 20) (x1).toNatClampNeg) ((aI Y 22) (x1).toNatClampNeg) _ hz)
          refine ⟨fun h26 => ?_, fun h26 => ?_⟩
          · exact hW _ 498 [(0, .ref 1000), (1, .int x1), (2, .int ((aI Y 20) (x1).toNatClampNeg)), (3, .int ((aI Y 22) (x1).toNatClampNeg))] _ _ _ (by simp [rdl, rky, Value.category]) ((ih m1 hm1).2.2.2.2.2.2.2.2.2.2.2.2.2.2.2.2.2.2.2.2.2.2.2.2.2.2.2.1 x1 ((aI Y 20) (x1).toNatClampNeg) ((aI Y 22) (x1).toNatClampNeg) _ hz)
          refine ⟨fun h27 => ?_, fun h27 => ?_⟩
          · exact hW _ 606 [(0, .ref 1000), (1, .int x1), (2, .int ((aI Y 20) (x1).toNatClampNeg)), (3, .int ((aI Y 22) (x1).toNatClampNeg))] _ _ _ (by simp [rdl, rky, Value.category]) ((ih m1 hm1).2.2.2.2.2.2.2.2.2.2.2.2.2.2.2.2.2.2.2.2.2.2.2.2.2.2.2.2.2.2.2.2.2.2.2.2.2.2.2 x1 ((aI Y 20) (x1).toNatClampNeg) ((aI Y 22) (x1).toNatClampNeg) _ hz)
          refine ⟨fun h28 => ?_, fun h28 => ?_⟩
          · exact hW _ 606 [(0, .ref 1000), (1, .int x1), (2, .int ((aI Y 20) (x1).toNatClampNeg)), (3, .int ((aI Y 22) (x1).toNatClampNeg))] _ _ _ (by simp [rdl, rky, Value.category]) ((ih m1 hm1).2.2.2.2.2.2.2.2.2.2.2.2.2.2.2.2.2.2.2.2.2.2.2.2.2.2.2.2.2.2.2.2.2.2.2.2.2.2.2 x1 ((aI Y 20) (x1).toNatClampNeg) ((aI Y 22) (x1).toNatClampNeg) _ hz)
          refine ⟨fun h29 => ?_, fun h29 => ?_⟩
          · exact hW _ 606 [(0, .ref 1000), (1, .int x1), (2, .int ((aI Y 20) (x1).toNatClampNeg)), (3, .int ((aI Y 22) (x1).toNatClampNeg))] _ _ _ (by simp [rdl, rky, Value.category]) ((ih m1 hm1).2.2.2.2.2.2.2.2.2.2.2.2.2.2.2.2.2.2.2.2.2.2.2.2.2.2.2.2.2.2.2.2.2.2.2.2.2.2.2 x1 ((aI Y 20) (x1).toNatClampNeg) ((aI Y 22) (x1).toNatClampNeg) _ hz)
          refine ⟨fun h30 => ?_, fun h30 => ?_⟩
          · exact hW _ 509 [(0, .ref 1000), (1, .int x1), (2, .int ((aI Y 20) (x1).toNatClampNeg)), (3, .int ((aI Y 22) (x1).toNatClampNeg))] _ _ _ (by simp [rdl, rky, Value.category]) ((ih m1 hm1).2.2.2.2.2.2.2.2.2.2.2.2.2.2.2.2.2.2.2.2.2.2.2.2.2.2.2.2.1 x1 ((aI Y 20) (x1).toNatClampNeg) ((aI Y 22) (x1).toNatClampNeg) _ hz)
          refine ⟨fun h31 => ?_, fun h31 => ?_⟩
          · exact hW _ 509 [(0, .ref 1000), (1, .int x1), (2, .int ((aI Y 20) (x1).toNatClampNeg)), (3, .int ((aI Y 22) (x1).toNatClampNeg))] _ _ _ (by simp [rdl, rky, Value.category]) ((ih m1 hm1).2.2.2.2.2.2.2.2.2.2.2.2.2.2.2.2.2.2.2.2.2.2.2.2.2.2.2.2.1 x1 ((aI Y 20) (x1).toNatClampNeg) ((aI Y 22) (x1).toNatClampNeg) _ hz)
          refine ⟨fun h32 => ?_, fun h32 => ?_⟩
          · exact hW _ 540 [(0, .ref 1000), (1, .int x1), (2, .int ((aI Y 20) (x1).toNatClampNeg)), (3, .int ((aI Y 22) (x1).toNatClampNeg))] _ _ _ (by simp [rdl, rky, Value.category]) ((ih m1 hm1).2.2.2.2.2.2.2.2.2.2.2.2.2.2.2.2.2.2.2.2.2.2.2.2.2.2.2.2.2.2.2.2.2.1 x1 ((aI Y 20) (x1).toNatClampNeg) ((aI Y 22) (x1).toNatClampNeg) _ hz)
          refine ⟨fun h33 => ?_, fun h33 => ?_⟩
          · exact hW _ 547 [(0, .ref 1000), (1, .int x1), (2, .int ((aI Y 20) (x1).toNatClampNeg)), (3, .int ((aI Y 22) (x1).toNatClampNeg))] _ _ _ (by simp [rdl, rky, Value.category]) ((ih m1 hm1).2.2.2.2.2.2.2.2.2.2.2.2.2.2.2.2.2.2.2.2.2.2.2.2.2.2.2.2.2.2.2.2.2.2.1 x1 ((aI Y 20) (x1).toNatClampNeg) ((aI Y 22) (x1).toNatClampNeg) _ hz)
          refine ⟨fun h34 => ?_, fun h34 => ?_⟩
          · exact hW _ 606 [(0, .ref 1000), (1, .int x1), (2, .int ((aI Y 20) (x1).toNatClampNeg)), (3, .int ((aI Y 22) (x1).toNatClampNeg))] _ _ _ (by simp [rdl, rky, Value.category]) ((ih m1 hm1).2.2.2.2.2.2.2.2.2.2.2.2.2.2.2.2.2.2.2.2.2.2.2.2.2.2.2.2.2.2.2.2.2.2.2.2.2.2.2 x1 ((aI Y 20) (x1).toNatClampNeg) ((aI Y 22) (x1).toNatClampNeg) _ hz)
          refine ⟨fun h35 => ?_, fun h35 => ?_⟩
          · exact hW _ 606 [(0, .ref 1000), (1, .int x1), (2, .int ((aI Y 20) (x1).toNatClampNeg)), (3, .int ((aI Y 22) (x1).toNatClampNeg))] _ _ _ (by simp [rdl, rky, Value.category]) ((ih m1 hm1).2.2.2.2.2.2.2.2.2.2.2.2.2.2.2.2.2.2.2.2.2.2.2.2.2.2.2.2.2.2.2.2.2.2.2.2.2.2.2 x1 ((aI Y 20) (x1).toNatClampNeg) ((aI Y 22) (x1).toNatClampNeg) _ hz)
          refine ⟨fun h36 => ?_, fun h36 => ?_⟩
          · exact hW _ 606 [(0, .ref 1000), (1, .int x1), (2, .int ((aI Y 20) (x1).toNatClampNeg)), (3, .int ((aI Y 22) (x1).toNatClampNeg))] _ _ _ (by simp [rdl, rky, Value.category]) ((ih m1 hm1).2.2.2.2.2.2.2.2.2.2.2.2.2.2.2.2.2.2.2.2.2.2.2.2.2.2.2.2.2.2.2.2.2.2.2.2.2.2.2 x1 ((aI Y 20) (x1).toNatClampNeg) ((aI Y 22) (x1).toNatClampNeg) _ hz)
          refine ⟨fun h37 => ?_, fun h37 => ?_⟩
          · exact hW _ 606 [(0, .ref 1000), (1, .int x1), (2, .int ((aI Y 20) (x1).toNatClampNeg)), (3, .int ((aI Y 22) (x1).toNatClampNeg))] _ _ _ (by simp [rdl, rky, Value.category]) ((ih m1 hm1).2.2.2.2.2.2.2.2.2.2.2.2.2.2.2.2.2.2.2.2.2.2.2.2.2.2.2.2.2.2.2.2.2.2.2.2.2.2.2 x1 ((aI Y 20) (x1).toNatClampNeg) ((aI Y 22) (x1).toNatClampNeg) _ hz)
          refine ⟨fun h38 => ?_, fun h38 => ?_⟩
          · exact hW _ 595 [(0, .ref 1000), (1, .int x1), (2, .int ((aI Y 20) (x1).toNatClampNeg)), (3, .int ((aI Y 22) (x1).toNatClampNeg))] _ _ _ (by simp [rdl, rky, Value.category]) ((ih m1 hm1).2.2.2.2.2.2.2.2.2.2.2.2.2.2.2.2.2.2.2.2.2.2.2.2.2.2.2.2.2.2.2.2.2.2.2.2.2.2.1 x1 ((aI Y 20) (x1).toNatClampNeg) ((aI Y 22) (x1).toNatClampNeg) _ hz)
          exact hW _ 606 [(0, .ref 1000), (1, .int x1), (2, .int ((aI Y 20) (x1).toNatClampNeg)), (3, .int ((aI Y 22) (x1).toNatClampNeg))] _ _ _ (by simp [rdl, rky, Value.category]) ((ih m1 hm1).2.2.2.2.2.2.2.2.2.2.2.2.2.2.2.2.2.2.2.2.2.2.2.2.2.2.2.2.2.2.2.2.2.2.2.2.2.2.2 x1 ((aI Y 20) (x1).toNatClampNeg) ((aI Y 22) (x1).toNatClampNeg) _ hz)
        · intro x1 x2 x3 Y hz
          refine hB _ _ _ _ _ (fun m1 hm1 => ?_)
          dsimp only [ugo, uwp, ust, uct, rfd, BjudgeStep, BjudgeStep_172, Nat.beq, lv_args, rlk, rs1, rs2, rdl, rky, rcd, rno, rsw, Value.category, List.filter, List.take, List.drop, List.reverse, List.reverseAux, List.cons_append, List.nil_append, Option.toList, Int.toNat, Int.reduceToNat, if_pos, if_neg, reduceIte, ↓reduceIte, Nat.reduceAdd, Nat.reduceEqDiff, Nat.reduceBEq, beq_self_eq_true, Bool.not_true, Bool.not_false, Bool.and_true, Bool.and_false, Bool.true_and, Bool.false_and, gI_sI, gI_sL, gI_sA, gI_sM, gL_sI, gL_sL, gL_sA, gL_sM, aI_sI, aI_sL, aI_sA, aI_sM, aL_sI, aL_sL, aL_sA, aL_sM, oi_1]; try dsimp only
          intro p2
          intro p3
          refine ⟨fun h4 => ?_, fun h4 => ?_⟩
          · exact hW _ 208 [(0, .ref 1000), (1, .int x1), (2, .int x2), (3, .int x3)] _ _ _ (by simp [rdl, rky, Value.category]) ((ih m1 hm1).2.2.2.1 x1 x2 x3 _ hz)
          · exact hW _ 201 [(0, .ref 1000), (1, .int x1), (2, .int x2), (3, .int x3)] _ _ _ (by simp [rdl, rky, Value.category]) ((ih m1 hm1).2.2.1 x1 x2 x3 _ hz)
        · intro x1 x2 x3 Y hz
          refine hB _ _ _ _ _ (fun m1 hm1 => ?_)
          dsimp only [ugo, uwp, ust, uct, rfd, BjudgeStep, BjudgeStep_201, Nat.beq, lv_args, rlk, rs1, rs2, rdl, rky, rcd, rno, rsw, Value.category, List.filter, List.take, List.drop, List.reverse, List.reverseAux, List.cons_append, List.nil_append, Option.toList, Int.toNat, Int.reduceToNat, if_pos, if_neg, reduceIte, ↓reduceIte, Nat.reduceAdd, Nat.reduceEqDiff, Nat.reduceBEq, beq_self_eq_true, Bool.not_true, Bool.not_false, Bool.and_true, Bool.and_false, Bool.true_and, Bool.false_and, gI_sI, gI_sL, gI_sA, gI_sM, gL_sI, gL_sL, gL_sA, gL_sM, aI_sI, aI_sL, aI_sA, aI_sM, aL_sI, aL_sL, aL_sA, aL_sM, oi_12]; try dsimp only
          refine ⟨trivial, fun w2 τ2 hq2 => ?_⟩
          obtain ⟨rfl, hz2⟩ := hq2 (show ¬ (12 : Int32) = 0 by decide)
          dsimp only [Option.toList, List.cons_append, List.nil_append, Nat.beq, gI_sI, gI_sL, gI_sA, gI_sM, gL_sI, gL_sL, gL_sA, gL_sM, aI_sI, aI_sL, aI_sA, aI_sM, aL_sI, aL_sL, aL_sA, aL_sM]
          exact hW _ 208 [(0, .ref 1000), (1, .int x1), (2, .int x2), (3, .int x3)] _ _ _ (by simp [rdl, rky, Value.category]) ((ih m1 hm1).2.2.2.1 x1 x2 x3 _ hz2)
        · intro x1 x2 x3 Y hz
          refine hB _ _ _ _ _ (fun m1 hm1 => ?_)
          dsimp only [ugo, uwp, ust, uct, rfd, BjudgeStep, BjudgeStep_208, Nat.beq, lv_args, rlk, rs1, rs2, rdl, rky, rcd, rno, rsw, Value.category, List.filter, List.take, List.drop, List.reverse, List.reverseAux, List.cons_append, List.nil_append, Option.toList, Int.toNat, Int.reduceToNat, if_pos, if_neg, reduceIte, ↓reduceIte, Nat.reduceAdd, Nat.reduceEqDiff, Nat.reduceBEq, beq_self_eq_true, Bool.not_true, Bool.not_false, Bool.and_true, Bool.and_false, Bool.true_and, Bool.false_and, gI_sI, gI_sL, gI_sA, gI_sM, gL_sI, gL_sL, gL_sA, gL_sM, aI_sI, aI_sL, aI_sA, aI_sM, aL_sI, aL_sL, aL_sA, aL_sM]; try dsimp only
          unfold Qv_judgeStepA
          try dsimp only
          exact ⟨rfl, hz⟩
        · intro x1 x2 x3 Y hz
          refine hB _ _ _ _ _ (fun m1 hm1 => ?_)
          dsimp only [ugo, uwp, ust, uct, rfd, BjudgeStep, BjudgeStep_209, Nat.beq, lv_args, rlk, rs1, rs2, rdl, rky, rcd, rno, rsw, Value.category, List.filter, List.take, List.drop, List.reverse, List.reverseAux, List.cons_append, List.nil_append, Option.toList, Int.toNat, Int.reduceToNat, if_pos, if_neg, reduceIte, ↓reduceIte, Nat.reduceAdd, Nat.reduceEqDiff, Nat.reduceBEq, beq_self_eq_true, Bool.not_true, Bool.not_false, Bool.and_true, Bool.and_false, Bool.true_and, Bool.false_and, gI_sI, gI_sL, gI_sA, gI_sM, gL_sI, gL_sL, gL_sA, gL_sM, aI_sI, aI_sL, aI_sA, aI_sM, aL_sI, aL_sL, aL_sA, aL_sM, oi_2]; try dsimp only
          intro p2
          refine ⟨fun h3 => ?_, fun h3 => ?_⟩
          · exact hW _ 225 [(0, .ref 1000), (1, .int x1), (2, .int x2), (3, .int x3)] _ _ _ (by simp [rdl, rky, Value.category]) ((ih m1 hm1).2.2.2.2.2.2.1 x1 x2 x3 _ hz)
          · exact hW _ 219 [(0, .ref 1000), (1, .int x1), (2, .int x2), (3, .int x3)] _ _ _ (by simp [rdl, rky, Value.category]) ((ih m1 hm1).2.2.2.2.2.1 x1 x2 x3 _ hz)
        · intro x1 x2 x3 Y hz
          refine hB _ _ _ _ _ (fun m1 hm1 => ?_)
          dsimp only [ugo, uwp, ust, uct, rfd, BjudgeStep, BjudgeStep_219, Nat.beq, lv_args, rlk, rs1, rs2, rdl, rky, rcd, rno, rsw, Value.category, List.filter, List.take, List.drop, List.reverse, List.reverseAux, List.cons_append, List.nil_append, Option.toList, Int.toNat, Int.reduceToNat, if_pos, if_neg, reduceIte, ↓reduceIte, Nat.reduceAdd, Nat.reduceEqDiff, Nat.reduceBEq, beq_self_eq_true, Bool.not_true, Bool.not_false, Bool.and_true, Bool.and_false, Bool.true_and, Bool.false_and, gI_sI, gI_sL, gI_sA, gI_sM, gL_sI, gL_sL, gL_sA, gL_sM, aI_sI, aI_sL, aI_sA, aI_sM, aL_sI, aL_sL, aL_sA, aL_sM]; try dsimp only
          refine ⟨trivial, fun w2 τ2 hq2 => ?_⟩
          obtain ⟨rfl, hz2⟩ := hq2 hz
          dsimp only [Option.toList, List.cons_append, List.nil_append, Nat.beq, gI_sI, gI_sL, gI_sA, gI_sM, gL_sI, gL_sL, gL_sA, gL_sM, aI_sI, aI_sL, aI_sA, aI_sM, aL_sI, aL_sL, aL_sA, aL_sM]
          exact hW _ 225 [(0, .ref 1000), (1, .int x1), (2, .int x2), (3, .int x3)] _ _ _ (by simp [rdl, rky, Value.category]) ((ih m1 hm1).2.2.2.2.2.2.1 x1 x2 x3 _ hz2)
        · intro x1 x2 x3 Y hz
          refine hB _ _ _ _ _ (fun m1 hm1 => ?_)
          dsimp only [ugo, uwp, ust, uct, rfd, BjudgeStep, BjudgeStep_225, Nat.beq, lv_args, rlk, rs1, rs2, rdl, rky, rcd, rno, rsw, Value.category, List.filter, List.take, List.drop, List.reverse, List.reverseAux, List.cons_append, List.nil_append, Option.toList, Int.toNat, Int.reduceToNat, if_pos, if_neg, reduceIte, ↓reduceIte, Nat.reduceAdd, Nat.reduceEqDiff, Nat.reduceBEq, beq_self_eq_true, Bool.not_true, Bool.not_false, Bool.and_true, Bool.and_false, Bool.true_and, Bool.false_and, gI_sI, gI_sL, gI_sA, gI_sM, gL_sI, gL_sL, gL_sA, gL_sM, aI_sI, aI_sL, aI_sA, aI_sM, aL_sI, aL_sL, aL_sA, aL_sM]; try dsimp only
          unfold Qv_judgeStepA
          try dsimp only
          exact ⟨rfl, hz⟩
        · intro x1 x2 x3 Y hz
          refine hB _ _ _ _ _ (fun m1 hm1 => ?_)
          dsimp only [ugo, uwp, ust, uct, rfd, BjudgeStep, BjudgeStep_226, Nat.beq, lv_args, rlk, rs1, rs2, rdl, rky, rcd, rno, rsw, Value.category, List.filter, List.take, List.drop, List.reverse, List.reverseAux, List.cons_append, List.nil_append, Option.toList, Int.toNat, Int.reduceToNat, if_pos, if_neg, reduceIte, ↓reduceIte, Nat.reduceAdd, Nat.reduceEqDiff, Nat.reduceBEq, beq_self_eq_true, Bool.not_true, Bool.not_false, Bool.and_true, Bool.and_false, Bool.true_and, Bool.false_and, gI_sI, gI_sL, gI_sA, gI_sM, gL_sI, gL_sL, gL_sA, gL_sM, aI_sI, aI_sL, aI_sA, aI_sM, aL_sI, aL_sL, aL_sA, aL_sM, oi_0, oi_1]; try dsimp only
          refine ⟨trivial, fun w2 τ2 hq2 => ?_⟩
          obtain ⟨hA2, b2, rfl, hb2⟩ := hq2 trivial
          have hz2 := hA2 hz
          dsimp only [Option.toList, List.cons_append, List.nil_append, Nat.beq, gI_sI, gI_sL, gI_sA, gI_sM, gL_sI, gL_sL, gL_sA, gL_sM, aI_sI, aI_sL, aI_sA, aI_sM, aL_sI, aL_sL, aL_sA, aL_sM]
          refine ⟨trivial, fun w3 τ3 hq3 => ?_⟩
          obtain ⟨rfl, u3, hu3, rfl⟩ := hq3 trivial
          dsimp only [Option.toList, List.cons_append, List.nil_append, Nat.beq, gI_sI, gI_sL, gI_sA, gI_sM, gL_sI, gL_sL, gL_sA, gL_sM, aI_sI, aI_sL, aI_sA, aI_sM, aL_sI, aL_sL, aL_sA, aL_sM]
          unfold Qv_judgeStepA
          try dsimp only
          exact ⟨rfl, hz2⟩
        · intro x1 x2 x3 Y hz
          refine hB _ _ _ _ _ (fun m1 hm1 => ?_)
          dsimp only [ugo, uwp, ust, uct, rfd, BjudgeStep, BjudgeStep_253, Nat.beq, lv_args, rlk, rs1, rs2, rdl, rky, rcd, rno, rsw, Value.category, List.filter, List.take, List.drop, List.reverse, List.reverseAux, List.cons_append, List.nil_append, Option.toList, Int.toNat, Int.reduceToNat, if_pos, if_neg, reduceIte, ↓reduceIte, Nat.reduceAdd, Nat.reduceEqDiff, Nat.reduceBEq, beq_self_eq_true, Bool.not_true, Bool.not_false, Bool.and_true, Bool.and_false, Bool.true_and, Bool.false_and, gI_sI, gI_sL, gI_sA, gI_sM, gL_sI, gL_sL, gL_sA, gL_sM, aI_sI, aI_sL, aI_sA, aI_sM, aL_sI, aL_sL, aL_sA, aL_sM, oi_1]; try dsimp only
          intro p2
          intro p3
          intro p4
          refine ⟨fun h5 => ?_, fun h5 => ?_⟩
          · exact hW _ 277 [(0, .ref 1000), (1, .int x1), (2, .int x2), (3, .int x3)] _ _ _ (by simp [rdl, rky, Value.category]) ((ih m1 hm1).2.2.2.2.2.2.2.2.2.2.1 x1 x2 x3 _ hz)
          · exact hW _ 276 [(0, .ref 1000), (1, .int x1), (2, .int x2), (3, .int x3)] _ _ _ (by simp [rdl, rky, Value.category]) ((ih m1 hm1).2.2.2.2.2.2.2.2.2.1 x1 x2 x3 _ hz)
        · intro x1 x2 x3 Y hz
          refine hB _ _ _ _ _ (fun m1 hm1 => ?_)
          dsimp only [ugo, uwp, ust, uct, rfd, BjudgeStep, BjudgeStep_276, Nat.beq, lv_args, rlk, rs1, rs2, rdl, rky, rcd, rno, rsw, Value.category, List.filter, List.take, List.drop, List.reverse, List.reverseAux, List.cons_append, List.nil_append, Option.toList, Int.toNat, Int.reduceToNat, if_pos, if_neg, reduceIte, ↓reduceIte, Nat.reduceAdd, Nat.reduceEqDiff, Nat.reduceBEq, beq_self_eq_true, Bool.not_true, Bool.not_false, Bool.and_true, Bool.and_false, Bool.true_and, Bool.false_and, gI_sI, gI_sL, gI_sA, gI_sM, gL_sI, gL_sL, gL_sA, gL_sM, aI_sI, aI_sL, aI_sA, aI_sM, aL_sI, aL_sL, aL_sA, aL_sM]; try dsimp only
          unfold Qv_judgeStepA
          try dsimp only
          exact ⟨rfl, hz⟩
        · intro x1 x2 x3 Y hz
          refine hB _ _ _ _ _ (fun m1 hm1 => ?_)
          dsimp only [ugo, uwp, ust, uct, rfd, BjudgeStep, BjudgeStep_277, Nat.beq, lv_args, rlk, rs1, rs2, rdl, rky, rcd, rno, rsw, Value.category, List.filter, List.take, List.drop, List.reverse, List.reverseAux, List.cons_append, List.nil_append, Option.toList, Int.toNat, Int.reduceToNat, if_pos, if_neg, reduceIte, ↓reduceIte, Nat.reduceAdd, Nat.reduceEqDiff, Nat.reduceBEq, beq_self_eq_true, Bool.not_true, Bool.not_false, Bool.and_true, Bool.and_false, Bool.true_and, Bool.false_and, gI_sI, gI_sL, gI_sA, gI_sM, gL_sI, gL_sL, gL_sA, gL_sM, aI_sI, aI_sL, aI_sA, aI_sM, aL_sI, aL_sL, aL_sA, aL_sM, oi_0, oi_1]; try dsimp only
          refine ⟨trivial, fun w2 τ2 hq2 => ?_⟩
          obtain ⟨hA2, b2, rfl, hb2⟩ := hq2 trivial
          have hz2 := hA2 hz
          dsimp only [Option.toList, List.cons_append, List.nil_append, Nat.beq, gI_sI, gI_sL, gI_sA, gI_sM, gL_sI, gL_sL, gL_sA, gL_sM, aI_sI, aI_sL, aI_sA, aI_sM, aL_sI, aL_sL, aL_sA, aL_sM]
          refine ⟨trivial, fun w3 τ3 hq3 => ?_⟩
          obtain ⟨rfl, u3, hu3, rfl⟩ := hq3 trivial
          dsimp only [Option.toList, List.cons_append, List.nil_append, Nat.beq, gI_sI, gI_sL, gI_sA, gI_sM, gL_sI, gL_sL, gL_sA, gL_sM, aI_sI, aI_sL, aI_sA, aI_sM, aL_sI, aL_sL, aL_sA, aL_sM]
          unfold Qv_judgeStepA
          try dsimp only
          exact ⟨rfl, hz2⟩
        · intro x1 x2 x3 Y hz
          refine hB _ _ _ _ _ (fun m1 hm1 => ?_)
          dsimp only [ugo, uwp, ust, uct, rfd, BjudgeStep, BjudgeStep_304, Nat.beq, lv_args, rlk, rs1, rs2, rdl, rky, rcd, rno, rsw, Value.category, List.filter, List.take, List.drop, List.reverse, List.reverseAux, List.cons_append, List.nil_append, Option.toList, Int.toNat, Int.reduceToNat, if_pos, if_neg, reduceIte, ↓reduceIte, Nat.reduceAdd, Nat.reduceEqDiff, Nat.reduceBEq, beq_self_eq_true, Bool.not_true, Bool.not_false, Bool.and_true, Bool.and_false, Bool.true_and, Bool.false_and, gI_sI, gI_sL, gI_sA, gI_sM, gL_sI, gL_sL, gL_sA, gL_sM, aI_sI, aI_sL, aI_sA, aI_sM, aL_sI, aL_sL, aL_sA, aL_sM, oi_1]; try dsimp only
          intro p2
          intro p3
          refine ⟨trivial, fun w4 τ4 hq4 => ?_⟩
          obtain ⟨rfl, b4, rfl, hb4⟩ := hq4 trivial
          dsimp only [Option.toList, List.cons_append, List.nil_append, Nat.beq, gI_sI, gI_sL, gI_sA, gI_sM, gL_sI, gL_sL, gL_sA, gL_sM, aI_sI, aI_sL, aI_sA, aI_sM, aL_sI, aL_sL, aL_sA, aL_sM]
          refine ⟨fun h5 => ?_, fun h5 => ?_⟩
          · exact hW _ 388 [(0, .ref 1000), (1, .int x1), (2, .int x2), (3, .int x3)] _ _ _ (by simp [rdl, rky, Value.category]) ((ih m1 hm1).2.2.2.2.2.2.2.2.2.2.2.2.2.2.2.1 x1 x2 x3 _ hz)
          · exact hW _ 340 [(0, .ref 1000), (1, .int x1), (2, .int x2), (3, .int x3)] _ _ _ (by simp [rdl, rky, Value.category]) ((ih m1 hm1).2.2.2.2.2.2.2.2.2.2.2.2.1 x1 x2 x3 _ hz)
        · intro x1 x2 x3 Y hz
          refine hB _ _ _ _ _ (fun m1 hm1 => ?_)
          dsimp only [ugo, uwp, ust, uct, rfd, BjudgeStep, BjudgeStep_340, Nat.beq, lv_args, rlk, rs1, rs2, rdl, rky, rcd, rno, rsw, Value.category, List.filter, List.take, List.drop, List.reverse, List.reverseAux, List.cons_append, List.nil_append, Option.toList, Int.toNat, Int.reduceToNat, if_pos, if_neg, reduceIte, ↓reduceIte, Nat.reduceAdd, Nat.reduceEqDiff, Nat.reduceBEq, beq_self_eq_true, Bool.not_true, Bool.not_false, Bool.and_true, Bool.and_false, Bool.true_and, Bool.false_and, gI_sI, gI_sL, gI_sA, gI_sM, gL_sI, gL_sL, gL_sA, gL_sM, aI_sI, aI_sL, aI_sA, aI_sM, aL_sI, aL_sL, aL_sA, aL_sM, oi_1]; try dsimp only
          intro p2
          refine ⟨fun h3 => ?_, fun h3 => ?_⟩
          · exact hW _ 366 [(0, .ref 1000), (1, .int x1), (2, .int x2), (3, .int x3)] _ _ _ (by simp [rdl, rky, Value.category]) ((ih m1 hm1).2.2.2.2.2.2.2.2.2.2.2.2.2.2.1 x1 x2 x3 _ hz)
          · exact hW _ 353 [(0, .ref 1000), (1, .int x1), (2, .int x2), (3, .int x3)] _ _ _ (by simp [rdl, rky, Value.category]) ((ih m1 hm1).2.2.2.2.2.2.2.2.2.2.2.2.2.1 x1 x2 x3 _ hz)
        · intro x1 x2 x3 Y hz
          refine hB _ _ _ _ _ (fun m1 hm1 => ?_)
          dsimp only [ugo, uwp, ust, uct, rfd, BjudgeStep, BjudgeStep_353, Nat.beq, lv_args, rlk, rs1, rs2, rdl, rky, rcd, rno, rsw, Value.category, List.filter, List.take, List.drop, List.reverse, List.reverseAux, List.cons_append, List.nil_append, Option.toList, Int.toNat, Int.reduceToNat, if_pos, if_neg, reduceIte, ↓reduceIte, Nat.reduceAdd, Nat.reduceEqDiff, Nat.reduceBEq, beq_self_eq_true, Bool.not_true, Bool.not_false, Bool.and_true, Bool.and_false, Bool.true_and, Bool.false_and, gI_sI, gI_sL, gI_sA, gI_sM, gL_sI, gL_sL, gL_sA, gL_sM, aI_sI, aI_sL, aI_sA, aI_sM, aL_sI, aL_sL, aL_sA, aL_sM, oi_3]; try dsimp only
          intro p2
          refine ⟨fun h3 => ?_, fun h3 => ?_⟩
          · exact hW _ 388 [(0, .ref 1000), (1, .int x1), (2, .int x2), (3, .int x3)] _ _ _ (by simp [rdl, rky, Value.category]) ((ih m1 hm1).2.2.2.2.2.2.2.2.2.2.2.2.2.2.2.1 x1 x2 x3 _ hz)
          · exact hW _ 366 [(0, .ref 1000), (1, .int x1), (2, .int x2), (3, .int x3)] _ _ _ (by simp [rdl, rky, Value.category]) ((ih m1 hm1).2.2.2.2.2.2.2.2.2.2.2.2.2.2.1 x1 x2 x3 _ hz)
        · intro x1 x2 x3 Y hz
          refine hB _ _ _ _ _ (fun m1 hm1 => ?_)
          dsimp only [ugo, uwp, ust, uct, rfd, BjudgeStep, BjudgeStep_366, Nat.beq, lv_args, rlk, rs1, rs2, rdl, rky, rcd, rno, rsw, Value.category, List.filter, List.take, List.drop, List.reverse, List.reverseAux, List.cons_append, List.nil_append, Option.toList, Int.toNat, Int.reduceToNat, if_pos, if_neg, reduceIte, ↓reduceIte, Nat.reduceAdd, Nat.reduceEqDiff, Nat.reduceBEq, beq_self_eq_true, Bool.not_true, Bool.not_false, Bool.and_true, Bool.and_false, Bool.true_and, Bool.false_and, gI_sI, gI_sL, gI_sA, gI_sM, gL_sI, gL_sL, gL_sA, gL_sM, aI_sI, aI_sL, aI_sA, aI_sM, aL_sI, aL_sL, aL_sA, aL_sM, oi_5, oi_m2]; try dsimp only
          intro p2
          refine ⟨trivial, fun w3 τ3 hq3 => ?_⟩
          obtain ⟨rfl, hz3⟩ := hq3 (show ¬ (5 : Int32) = 0 by decide)
          dsimp only [Option.toList, List.cons_append, List.nil_append, Nat.beq, gI_sI, gI_sL, gI_sA, gI_sM, gL_sI, gL_sL, gL_sA, gL_sM, aI_sI, aI_sL, aI_sA, aI_sM, aL_sI, aL_sL, aL_sA, aL_sM]
          intro p4
          exact hW _ 388 [(0, .ref 1000), (1, .int x1), (2, .int x2), (3, .int x3)] _ _ _ (by simp [rdl, rky, Value.category]) ((ih m1 hm1).2.2.2.2.2.2.2.2.2.2.2.2.2.2.2.1 x1 x2 x3 _ hz3)
        · intro x1 x2 x3 Y hz
          refine hB _ _ _ _ _ (fun m1 hm1 => ?_)
          dsimp only [ugo, uwp, ust, uct, rfd, BjudgeStep, BjudgeStep_388, Nat.beq, lv_args, rlk, rs1, rs2, rdl, rky, rcd, rno, rsw, Value.category, List.filter, List.take, List.drop, List.reverse, List.reverseAux, List.cons_append, List.nil_append, Option.toList, Int.toNat, Int.reduceToNat, if_pos, if_neg, reduceIte, ↓reduceIte, Nat.reduceAdd, Nat.reduceEqDiff, Nat.reduceBEq, beq_self_eq_true, Bool.not_true, Bool.not_false, Bool.and_true, Bool.and_false, Bool.true_and, Bool.false_and, gI_sI, gI_sL, gI_sA, gI_sM, gL_sI, gL_sL, gL_sA, gL_sM, aI_sI, aI_sL, aI_sA, aI_sM, aL_sI, aL_sL, aL_sA, aL_sM]; try dsimp only
          unfold Qv_judgeStepA
          try dsimp only
          exact ⟨rfl, hz⟩
        · intro x1 x2 x3 Y hz
          refine hB _ _ _ _ _ (fun m1 hm1 => ?_)
          dsimp only [ugo, uwp, ust, uct, rfd, BjudgeStep, BjudgeStep_389, Nat.beq, lv_args, rlk, rs1, rs2, rdl, rky, rcd, rno, rsw, Value.category, List.filter, List.take, List.drop, List.reverse, List.reverseAux, List.cons_append, List.nil_append, Option.toList, Int.toNat, Int.reduceToNat, if_pos, if_neg, reduceIte, ↓reduceIte, Nat.reduceAdd, Nat.reduceEqDiff, Nat.reduceBEq, beq_self_eq_true, Bool.not_true, Bool.not_false, Bool.and_true, Bool.and_false, Bool.true_and, Bool.false_and, gI_sI, gI_sL, gI_sA, gI_sM, gL_sI, gL_sL, gL_sA, gL_sM, aI_sI, aI_sL, aI_sA, aI_sM, aL_sI, aL_sL, aL_sA, aL_sM]; try dsimp only
          refine ⟨trivial, fun w2 τ2 hq2 => ?_⟩
          obtain ⟨rfl, hz2⟩ := hq2 hz
          dsimp only [Option.toList, List.cons_append, List.nil_append, Nat.beq, gI_sI, gI_sL, gI_sA, gI_sM, gL_sI, gL_sL, gL_sA, gL_sM, aI_sI, aI_sL, aI_sA, aI_sM, aL_sI, aL_sL, aL_sA, aL_sM]
          unfold Qv_judgeStepA
          try dsimp only
          exact ⟨rfl, hz2⟩
        · intro x1 x2 x3 Y hz
          refine hB _ _ _ _ _ (fun m1 hm1 => ?_)
          dsimp only [ugo, uwp, ust, uct, rfd, BjudgeStep, BjudgeStep_396, Nat.beq, lv_args, rlk, rs1, rs2, rdl, rky, rcd, rno, rsw, Value.category, List.filter, List.take, List.drop, List.reverse, List.reverseAux, List.cons_append, List.nil_append, Option.toList, Int.toNat, Int.reduceToNat, if_pos, if_neg, reduceIte, ↓reduceIte, Nat.reduceAdd, Nat.reduceEqDiff, Nat.reduceBEq, beq_self_eq_true, Bool.not_true, Bool.not_false, Bool.and_true, Bool.and_false, Bool.true_and, Bool.false_and, gI_sI, gI_sL, gI_sA, gI_sM, gL_sI, gL_sL, gL_sA, gL_sM, aI_sI, aI_sL, aI_sA, aI_sM, aL_sI, aL_sL, aL_sA, aL_sM]; try dsimp only
          intro p2
          refine ⟨fun h3 => ?_, fun h3 => ?_⟩
          · exact hW _ 415 [(0, .ref 1000), (1, .int x1), (2, .int x2), (3, .int x3)] _ _ _ (by simp [rdl, rky, Value.category]) ((ih m1 hm1).2.2.2.2.2.2.2.2.2.2.2.2.2.2.2.2.2.2.2.1 x1 x2 x3 _ hz)
          · exact hW _ 405 [(0, .ref 1000), (1, .int x1), (2, .int x2), (3, .int x3)] _ _ _ (by simp [rdl, rky, Value.category]) ((ih m1 hm1).2.2.2.2.2.2.2.2.2.2.2.2.2.2.2.2.2.2.1 x1 x2 x3 _ hz)
        · intro x1 x2 x3 Y hz
          refine hB _ _ _ _ _ (fun m1 hm1 => ?_)
          dsimp only [ugo, uwp, ust, uct, rfd, BjudgeStep, BjudgeStep_405, Nat.beq, lv_args, rlk, rs1, rs2, rdl, rky, rcd, rno, rsw, Value.category, List.filter, List.take, List.drop, List.reverse, List.reverseAux, List.cons_append, List.nil_append, Option.toList, Int.toNat, Int.reduceToNat, if_pos, if_neg, reduceIte, ↓reduceIte, Nat.reduceAdd, Nat.reduceEqDiff, Nat.reduceBEq, beq_self_eq_true, Bool.not_true, Bool.not_false, Bool.and_true, Bool.and_false, Bool.true_and, Bool.false_and, gI_sI, gI_sL, gI_sA, gI_sM, gL_sI, gL_sL, gL_sA, gL_sM, aI_sI, aI_sL, aI_sA, aI_sM, aL_sI, aL_sL, aL_sA, aL_sM, oi_8]; try dsimp only
          refine ⟨trivial, fun w2 τ2 hq2 => ?_⟩
          obtain ⟨rfl, hz2⟩ := hq2 (show ¬ (8 : Int32) = 0 by decide)
          dsimp only [Option.toList, List.cons_append, List.nil_append, Nat.beq, gI_sI, gI_sL, gI_sA, gI_sM, gL_sI, gL_sL, gL_sA, gL_sM, aI_sI, aI_sL, aI_sA, aI_sM, aL_sI, aL_sL, aL_sA, aL_sM]
          exact hW _ 422 [(0, .ref 1000), (1, .int x1), (2, .int x2), (3, .int x3)] _ _ _ (by simp [rdl, rky, Value.category]) ((ih m1 hm1).2.2.2.2.2.2.2.2.2.2.2.2.2.2.2.2.2.2.2.2.1 x1 x2 x3 _ hz2)
        · intro x1 x2 x3 Y hz
          refine hB _ _ _ _ _ (fun m1 hm1 => ?_)
          dsimp only [ugo, uwp, ust, uct, rfd, BjudgeStep, BjudgeStep_415, Nat.beq, lv_args, rlk, rs1, rs2, rdl, rky, rcd, rno, rsw, Value.category, List.filter, List.take, List.drop, List.reverse, List.reverseAux, List.cons_append, List.nil_append, Option.toList, Int.toNat, Int.reduceToNat, if_pos, if_neg, reduceIte, ↓reduceIte, Nat.reduceAdd, Nat.reduceEqDiff, Nat.reduceBEq, beq_self_eq_true, Bool.not_true, Bool.not_false, Bool.and_true, Bool.and_false, Bool.true_and, Bool.false_and, gI_sI, gI_sL, gI_sA, gI_sM, gL_sI, gL_sL, gL_sA, gL_sM, aI_sI, aI_sL, aI_sA, aI_sM, aL_sI, aL_sL, aL_sA, aL_sM]; try dsimp only
          intro p2
          exact hW _ 422 [(0, .ref 1000), (1, .int x1), (2, .int x2), (3, .int x3)] _ _ _ (by simp [rdl, rky, Value.category]) ((ih m1 hm1).2.2.2.2.2.2.2.2.2.2.2.2.2.2.2.2.2.2.2.2.1 x1 x2 x3 _ hz)
        · intro x1 x2 x3 Y hz
          refine hB _ _ _ _ _ (fun m1 hm1 => ?_)
          dsimp only [ugo, uwp, ust, uct, rfd, BjudgeStep, BjudgeStep_422, Nat.beq, lv_args, rlk, rs1, rs2, rdl, rky, rcd, rno, rsw, Value.category, List.filter, List.take, List.drop, List.reverse, List.reverseAux, List.cons_append, List.nil_append, Option.toList, Int.toNat, Int.reduceToNat, if_pos, if_neg, reduceIte, ↓reduceIte, Nat.reduceAdd, Nat.reduceEqDiff, Nat.reduceBEq, beq_self_eq_true, Bool.not_true, Bool.not_false, Bool.and_true, Bool.and_false, Bool.true_and, Bool.false_and, gI_sI, gI_sL, gI_sA, gI_sM, gL_sI, gL_sL, gL_sA, gL_sM, aI_sI, aI_sL, aI_sA, aI_sM, aL_sI, aL_sL, aL_sA, aL_sM]; try dsimp only
          unfold Qv_judgeStepA
          try dsimp only
          exact ⟨rfl, hz⟩
        · intro x1 x2 x3 Y hz
          refine hB _ _ _ _ _ (fun m1 hm1 => ?_)
          dsimp only [ugo, uwp, ust, uct, rfd, BjudgeStep, BjudgeStep_423, Nat.beq, lv_args, rlk, rs1, rs2, rdl, rky, rcd, rno, rsw, Value.category, List.filter, List.take, List.drop, List.reverse, List.reverseAux, List.cons_append, List.nil_append, Option.toList, Int.toNat, Int.reduceToNat, if_pos, if_neg, reduceIte, ↓reduceIte, Nat.reduceAdd, Nat.reduceEqDiff, Nat.reduceBEq, beq_self_eq_true, Bool.not_true, Bool.not_false, Bool.and_true, Bool.and_false, Bool.true_and, Bool.false_and, gI_sI, gI_sL, gI_sA, gI_sM, gL_sI, gL_sL, gL_sA, gL_sM, aI_sI, aI_sL, aI_sA, aI_sM, aL_sI, aL_sL, aL_sA, aL_sM, oi_0, oi_200]; try dsimp only
          intro p2
          exact hW _ 435 [(0, .ref 1000), (1, .int x1), (2, .int x2), (3, .int x3), (6, .int 0)] _ _ _ (by simp [rdl, rky, Value.category]) ((ih m1 hm1).2.2.2.2.2.2.2.2.2.2.2.2.2.2.2.2.2.2.2.2.2.2.1 x1 x2 x3 0 _ hz)
        · intro x1 x2 x3 x6 Y hz
          refine hB _ _ _ _ _ (fun m1 hm1 => ?_)
          dsimp only [ugo, uwp, ust, uct, rfd, BjudgeStep, BjudgeStep_435, Nat.beq, lv_args, rlk, rs1, rs2, rdl, rky, rcd, rno, rsw, Value.category, List.filter, List.take, List.drop, List.reverse, List.reverseAux, List.cons_append, List.nil_append, Option.toList, Int.toNat, Int.reduceToNat, if_pos, if_neg, reduceIte, ↓reduceIte, Nat.reduceAdd, Nat.reduceEqDiff, Nat.reduceBEq, beq_self_eq_true, Bool.not_true, Bool.not_false, Bool.and_true, Bool.and_false, Bool.true_and, Bool.false_and, gI_sI, gI_sL, gI_sA, gI_sM, gL_sI, gL_sL, gL_sA, gL_sM, aI_sI, aI_sL, aI_sA, aI_sM, aL_sI, aL_sL, aL_sA, aL_sM]; try dsimp only
          refine ⟨fun h2 => ?_, fun h2 => ?_⟩
          · exact hW _ 477 [(0, .ref 1000), (1, .int x1), (2, .int x2), (3, .int x3), (6, .int x6)] _ _ _ (by simp [rdl, rky, Value.category]) ((ih m1 hm1).2.2.2.2.2.2.2.2.2.2.2.2.2.2.2.2.2.2.2.2.2.2.2.2.2.2.1 x1 x2 x3 x6 _ hz)
          · exact hW _ 444 [(0, .ref 1000), (1, .int x1), (2, .int x2), (3, .int x3), (6, .int x6)] _ _ _ (by simp [rdl, rky, Value.category]) ((ih m1 hm1).2.2.2.2.2.2.2.2.2.2.2.2.2.2.2.2.2.2.2.2.2.2.2.1 x1 x2 x3 x6 _ hz)
        · intro x1 x2 x3 x6 Y hz
          refine hB _ _ _ _ _ (fun m1 hm1 => ?_)
          dsimp only [ugo, uwp, ust, uct, rfd, BjudgeStep, BjudgeStep_444, Nat.beq, lv_args, rlk, rs1, rs2, rdl, rky, rcd, rno, rsw, Value.category, List.filter, List.take, List.drop, List.reverse, List.reverseAux, List.cons_append, List.nil_append, Option.toList, Int.toNat, Int.reduceToNat, if_pos, if_neg, reduceIte, ↓reduceIte, Nat.reduceAdd, Nat.reduceEqDiff, Nat.reduceBEq, beq_self_eq_true, Bool.not_true, Bool.not_false, Bool.and_true, Bool.and_false, Bool.true_and, Bool.false_and, gI_sI, gI_sL, gI_sA, gI_sM, gL_sI, gL_sL, gL_sA, gL_sM, aI_sI, aI_sL, aI_sA, aI_sM, aL_sI, aL_sL, aL_sA, aL_sM]; try dsimp only
          intro p2
          intro p3
          refine ⟨trivial, fun w4 τ4 hq4 => ?_⟩
          obtain ⟨rfl, hb4⟩ := hq4 trivial
          rcases hb4 with ⟨rfl, hs4⟩ | ⟨rfl, hs4⟩
          · dsimp only [Option.toList, List.cons_append, List.nil_append, Nat.beq, gI_sI, gI_sL, gI_sA, gI_sM, gL_sI, gL_sL, gL_sA, gL_sM, aI_sI, aI_sL, aI_sA, aI_sM, aL_sI, aL_sL, aL_sA, aL_sM]
            have hs4 : sameR Y (((aI Y 60) (((aI Y 90) (x6).toNatClampNeg)).toNatClampNeg)).toNatClampNeg (x3).toNatClampNeg := hs4
            refine ⟨fun h5 => absurd h5 (by decide), fun h5 => ?_⟩
            clear h5
            exact hW _ 464 [(0, .ref 1000), (1, .int x1), (2, .int x2), (3, .int x3), (6, .int x6)] _ _ _ (by simp [rdl, rky, Value.category]) ((ih m1 hm1).2.2.2.2.2.2.2.2.2.2.2.2.2.2.2.2.2.2.2.2.2.2.2.2.1 x1 x2 x3 x6 _ hz)
          · dsimp only [Option.toList, List.cons_append, List.nil_append, Nat.beq, gI_sI, gI_sL, gI_sA, gI_sM, gL_sI, gL_sL, gL_sA, gL_sM, aI_sI, aI_sL, aI_sA, aI_sM, aL_sI, aL_sL, aL_sA, aL_sM]
            have hs4 : ¬ sameR Y (((aI Y 60) (((aI Y 90) (x6).toNatClampNeg)).toNatClampNeg)).toNatClampNeg (x3).toNatClampNeg := hs4
            refine ⟨fun h6 => ?_, fun h6 => absurd h6 (by decide)⟩
            clear h6
            exact hW _ 471 [(0, .ref 1000), (1, .int x1), (2, .int x2), (3, .int x3), (6, .int x6)] _ _ _ (by simp [rdl, rky, Value.category]) ((ih m1 hm1).2.2.2.2.2.2.2.2.2.2.2.2.2.2.2.2.2.2.2.2.2.2.2.2.2.1 x1 x2 x3 x6 _ hz)
        · intro x1 x2 x3 x6 Y hz
          refine hB _ _ _ _ _ (fun m1 hm1 => ?_)
          dsimp only [ugo, uwp, ust, uct, rfd, BjudgeStep, BjudgeStep_464, Nat.beq, lv_args, rlk, rs1, rs2, rdl, rky, rcd, rno, rsw, Value.category, List.filter, List.take, List.drop, List.reverse, List.reverseAux, List.cons_append, List.nil_append, Option.toList, Int.toNat, Int.reduceToNat, if_pos, if_neg, reduceIte, ↓reduceIte, Nat.reduceAdd, Nat.reduceEqDiff, Nat.reduceBEq, beq_self_eq_true, Bool.not_true, Bool.not_false, Bool.and_true, Bool.and_false, Bool.true_and, Bool.false_and, gI_sI, gI_sL, gI_sA, gI_sM, gL_sI, gL_sL, gL_sA, gL_sM, aI_sI, aI_sL, aI_sA, aI_sM, aL_sI, aL_sL, aL_sA, aL_sM, oi_10]; try dsimp only
          refine ⟨trivial, fun w2 τ2 hq2 => ?_⟩
          obtain ⟨rfl, hz2⟩ := hq2 (show ¬ (10 : Int32) = 0 by decide)
          dsimp only [Option.toList, List.cons_append, List.nil_append, Nat.beq, gI_sI, gI_sL, gI_sA, gI_sM, gL_sI, gL_sL, gL_sA, gL_sM, aI_sI, aI_sL, aI_sA, aI_sM, aL_sI, aL_sL, aL_sA, aL_sM]
          exact hW _ 471 [(0, .ref 1000), (1, .int x1), (2, .int x2), (3, .int x3), (6, .int x6)] _ _ _ (by simp [rdl, rky, Value.category]) ((ih m1 hm1).2.2.2.2.2.2.2.2.2.2.2.2.2.2.2.2.2.2.2.2.2.2.2.2.2.1 x1 x2 x3 x6 _ hz2)
        · intro x1 x2 x3 x6 Y hz
          refine hB _ _ _ _ _ (fun m1 hm1 => ?_)
          dsimp only [ugo, uwp, ust, uct, rfd, BjudgeStep, BjudgeStep_471, Nat.beq, lv_args, rlk, rs1, rs2, rdl, rky, rcd, rno, rsw, Value.category, List.filter, List.take, List.drop, List.reverse, List.reverseAux, List.cons_append, List.nil_append, Option.toList, Int.toNat, Int.reduceToNat, if_pos, if_neg, reduceIte, ↓reduceIte, Nat.reduceAdd, Nat.reduceEqDiff, Nat.reduceBEq, beq_self_eq_true, Bool.not_true, Bool.not_false, Bool.and_true, Bool.and_false, Bool.true_and, Bool.false_and, gI_sI, gI_sL, gI_sA, gI_sM, gL_sI, gL_sL, gL_sA, gL_sM, aI_sI, aI_sL, aI_sA, aI_sM, aL_sI, aL_sL, aL_sA, aL_sM, oi_1]; try dsimp only
          exact hW _ 435 [(0, .ref 1000), (1, .int x1), (2, .int x2), (3, .int x3), (6, .int (x6 + 1))] _ _ _ (by simp [rdl, rky, Value.category]) ((ih m1 hm1).2.2.2.2.2.2.2.2.2.2.2.2.2.2.2.2.2.2.2.2.2.2.1 x1 x2 x3 (x6 + 1) _ hz)
        · intro x1 x2 x3 x6 Y hz
          refine hB _ _ _ _ _ (fun m1 hm1 => ?_)
          dsimp only [ugo, uwp, ust, uct, rfd, BjudgeStep, BjudgeStep_477, Nat.beq, lv_args, rlk, rs1, rs2, rdl, rky, rcd, rno, rsw, Value.category, List.filter, List.take, List.drop, List.reverse, List.reverseAux, List.cons_append, List.nil_append, Option.toList, Int.toNat, Int.reduceToNat, if_pos, if_neg, reduceIte, ↓reduceIte, Nat.reduceAdd, Nat.reduceEqDiff, Nat.reduceBEq, beq_self_eq_true, Bool.not_true, Bool.not_false, Bool.and_true, Bool.and_false, Bool.true_and, Bool.false_and, gI_sI, gI_sL, gI_sA, gI_sM, gL_sI, gL_sL, gL_sA, gL_sM, aI_sI, aI_sL, aI_sA, aI_sM, aL_sI, aL_sL, aL_sA, aL_sM, oi_1]; try dsimp only
          intro p2
          unfold Qv_judgeStepA
          try dsimp only
          exact ⟨rfl, hz⟩
        · intro x1 x2 x3 Y hz
          refine hB _ _ _ _ _ (fun m1 hm1 => ?_)
          dsimp only [ugo, uwp, ust, uct, rfd, BjudgeStep, BjudgeStep_498, Nat.beq, lv_args, rlk, rs1, rs2, rdl, rky, rcd, rno, rsw, Value.category, List.filter, List.take, List.drop, List.reverse, List.reverseAux, List.cons_append, List.nil_append, Option.toList, Int.toNat, Int.reduceToNat, if_pos, if_neg, reduceIte, ↓reduceIte, Nat.reduceAdd, Nat.reduceEqDiff, Nat.reduceBEq, beq_self_eq_true, Bool.not_true, Bool.not_false, Bool.and_true, Bool.and_false, Bool.true_and, Bool.false_and, gI_sI, gI_sL, gI_sA, gI_sM, gL_sI, gL_sL, gL_sA, gL_sM, aI_sI, aI_sL, aI_sA, aI_sM, aL_sI, aL_sL, aL_sA, aL_sM, oi_1]; try dsimp only
          unfold Qv_judgeStepA
          try dsimp only
          exact ⟨rfl, hz⟩
        · intro x1 x2 x3 Y hz
          refine hB _ _ _ _ _ (fun m1 hm1 => ?_)
          dsimp only [ugo, uwp, ust, uct, rfd, BjudgeStep, BjudgeStep_509, Nat.beq, lv_args, rlk, rs1, rs2, rdl, rky, rcd, rno, rsw, Value.category, List.filter, List.take, List.drop, List.reverse, List.reverseAux, List.cons_append, List.nil_append, Option.toList, Int.toNat, Int.reduceToNat, if_pos, if_neg, reduceIte, ↓reduceIte, Nat.reduceAdd, Nat.reduceEqDiff, Nat.reduceBEq, beq_self_eq_true, Bool.not_true, Bool.not_false, Bool.and_true, Bool.and_false, Bool.true_and, Bool.false_and, gI_sI, gI_sL, gI_sA, gI_sM, gL_sI, gL_sL, gL_sA, gL_sM, aI_sI, aI_sL, aI_sA, aI_sM, aL_sI, aL_sL, aL_sA, aL_sM, oi_1]; try dsimp only
          intro p2
          refine ⟨fun h3 => ?_, fun h3 => ?_⟩
          · exact hW _ 528 [(0, .ref 1000), (1, .int x1), (2, .int x2), (3, .int x3)] _ _ _ (by simp [rdl, rky, Value.category]) ((ih m1 hm1).2.2.2.2.2.2.2.2.2.2.2.2.2.2.2.2.2.2.2.2.2.2.2.2.2.2.2.2.2.2.1 x1 x2 x3 _ hz)
          · exact hW _ 519 [(0, .ref 1000), (1, .int x1), (2, .int x2), (3, .int x3)] _ _ _ (by simp [rdl, rky, Value.category]) ((ih m1 hm1).2.2.2.2.2.2.2.2.2.2.2.2.2.2.2.2.2.2.2.2.2.2.2.2.2.2.2.2.2.1 x1 x2 x3 _ hz)
        · intro x1 x2 x3 Y hz
          refine hB _ _ _ _ _ (fun m1 hm1 => ?_)
          dsimp only [ugo, uwp, ust, uct, rfd, BjudgeStep, BjudgeStep_519, Nat.beq, lv_args, rlk, rs1, rs2, rdl, rky, rcd, rno, rsw, Value.category, List.filter, List.take, List.drop, List.reverse, List.reverseAux, List.cons_append, List.nil_append, Option.toList, Int.toNat, Int.reduceToNat, if_pos, if_neg, reduceIte, ↓reduceIte, Nat.reduceAdd, Nat.reduceEqDiff, Nat.reduceBEq, beq_self_eq_true, Bool.not_true, Bool.not_false, Bool.and_true, Bool.and_false, Bool.true_and, Bool.false_and, gI_sI, gI_sL, gI_sA, gI_sM, gL_sI, gL_sL, gL_sA, gL_sM, aI_sI, aI_sL, aI_sA, aI_sM, aL_sI, aL_sL, aL_sA, aL_sM, oi_200]; try dsimp only
          intro p2
          exact hW _ 528 [(0, .ref 1000), (1, .int x1), (2, .int x2), (3, .int x3)] _ _ _ (by simp [rdl, rky, Value.category]) ((ih m1 hm1).2.2.2.2.2.2.2.2.2.2.2.2.2.2.2.2.2.2.2.2.2.2.2.2.2.2.2.2.2.2.1 x1 x2 x3 _ hz)
        · intro x1 x2 x3 Y hz
          refine hB _ _ _ _ _ (fun m1 hm1 => ?_)
          dsimp only [ugo, uwp, ust, uct, rfd, BjudgeStep, BjudgeStep_528, Nat.beq, lv_args, rlk, rs1, rs2, rdl, rky, rcd, rno, rsw, Value.category, List.filter, List.take, List.drop, List.reverse, List.reverseAux, List.cons_append, List.nil_append, Option.toList, Int.toNat, Int.reduceToNat, if_pos, if_neg, reduceIte, ↓reduceIte, Nat.reduceAdd, Nat.reduceEqDiff, Nat.reduceBEq, beq_self_eq_true, Bool.not_true, Bool.not_false, Bool.and_true, Bool.and_false, Bool.true_and, Bool.false_and, gI_sI, gI_sL, gI_sA, gI_sM, gL_sI, gL_sL, gL_sA, gL_sM, aI_sI, aI_sL, aI_sA, aI_sM, aL_sI, aL_sL, aL_sA, aL_sM]; try dsimp only
          refine ⟨fun h2 => ?_, fun h2 => ?_⟩
          · exact hW _ 539 [(0, .ref 1000), (1, .int x1), (2, .int x2), (3, .int x3)] _ _ _ (by simp [rdl, rky, Value.category]) ((ih m1 hm1).2.2.2.2.2.2.2.2.2.2.2.2.2.2.2.2.2.2.2.2.2.2.2.2.2.2.2.2.2.2.2.2.1 x1 x2 x3 _ hz)
          · exact hW _ 532 [(0, .ref 1000), (1, .int x1), (2, .int x2), (3, .int x3)] _ _ _ (by simp [rdl, rky, Value.category]) ((ih m1 hm1).2.2.2.2.2.2.2.2.2.2.2.2.2.2.2.2.2.2.2.2.2.2.2.2.2.2.2.2.2.2.2.1 x1 x2 x3 _ hz)
        · intro x1 x2 x3 Y hz
          refine hB _ _ _ _ _ (fun m1 hm1 => ?_)
          dsimp only [ugo, uwp, ust, uct, rfd, BjudgeStep, BjudgeStep_532, Nat.beq, lv_args, rlk, rs1, rs2, rdl, rky, rcd, rno, rsw, Value.category, List.filter, List.take, List.drop, List.reverse, List.reverseAux, List.cons_append, List.nil_append, Option.toList, Int.toNat, Int.reduceToNat, if_pos, if_neg, reduceIte, ↓reduceIte, Nat.reduceAdd, Nat.reduceEqDiff, Nat.reduceBEq, beq_self_eq_true, Bool.not_true, Bool.not_false, Bool.and_true, Bool.and_false, Bool.true_and, Bool.false_and, gI_sI, gI_sL, gI_sA, gI_sM, gL_sI, gL_sL, gL_sA, gL_sM, aI_sI, aI_sL, aI_sA, aI_sM, aL_sI, aL_sL, aL_sA, aL_sM, oi_9]; try dsimp only
          refine ⟨trivial, fun w2 τ2 hq2 => ?_⟩
          obtain ⟨rfl, hz2⟩ := hq2 (show ¬ (9 : Int32) = 0 by decide)
          dsimp only [Option.toList, List.cons_append, List.nil_append, Nat.beq, gI_sI, gI_sL, gI_sA, gI_sM, gL_sI, gL_sL, gL_sA, gL_sM, aI_sI, aI_sL, aI_sA, aI_sM, aL_sI, aL_sL, aL_sA, aL_sM]
          exact hW _ 539 [(0, .ref 1000), (1, .int x1), (2, .int x2), (3, .int x3)] _ _ _ (by simp [rdl, rky, Value.category]) ((ih m1 hm1).2.2.2.2.2.2.2.2.2.2.2.2.2.2.2.2.2.2.2.2.2.2.2.2.2.2.2.2.2.2.2.2.1 x1 x2 x3 _ hz2)
        · intro x1 x2 x3 Y hz
          refine hB _ _ _ _ _ (fun m1 hm1 => ?_)
          dsimp only [ugo, uwp, ust, uct, rfd, BjudgeStep, BjudgeStep_539, Nat.beq, lv_args, rlk, rs1, rs2, rdl, rky, rcd, rno, rsw, Value.category, List.filter, List.take, List.drop, List.reverse, List.reverseAux, List.cons_append, List.nil_append, Option.toList, Int.toNat, Int.reduceToNat, if_pos, if_neg, reduceIte, ↓reduceIte, Nat.reduceAdd, Nat.reduceEqDiff, Nat.reduceBEq, beq_self_eq_true, Bool.not_true, Bool.not_false, Bool.and_true, Bool.and_false, Bool.true_and, Bool.false_and, gI_sI, gI_sL, gI_sA, gI_sM, gL_sI, gL_sL, gL_sA, gL_sM, aI_sI, aI_sL, aI_sA, aI_sM, aL_sI, aL_sL, aL_sA, aL_sM]; try dsimp only
          unfold Qv_judgeStepA
          try dsimp only
          exact ⟨rfl, hz⟩
        · intro x1 x2 x3 Y hz
          refine hB _ _ _ _ _ (fun m1 hm1 => ?_)
          dsimp only [ugo, uwp, ust, uct, rfd, BjudgeStep, BjudgeStep_540, Nat.beq, lv_args, rlk, rs1, rs2, rdl, rky, rcd, rno, rsw, Value.category, List.filter, List.take, List.drop, List.reverse, List.reverseAux, List.cons_append, List.nil_append, Option.toList, Int.toNat, Int.reduceToNat, if_pos, if_neg, reduceIte, ↓reduceIte, Nat.reduceAdd, Nat.reduceEqDiff, Nat.reduceBEq, beq_self_eq_true, Bool.not_true, Bool.not_false, Bool.and_true, Bool.and_false, Bool.true_and, Bool.false_and, gI_sI, gI_sL, gI_sA, gI_sM, gL_sI, gL_sL, gL_sA, gL_sM, aI_sI, aI_sL, aI_sA, aI_sM, aL_sI, aL_sL, aL_sA, aL_sM]; try dsimp only
          refine ⟨trivial, fun w2 τ2 hq2 => ?_⟩
          obtain ⟨rfl, hz2⟩ := hq2 hz
          dsimp only [Option.toList, List.cons_append, List.nil_append, Nat.beq, gI_sI, gI_sL, gI_sA, gI_sM, gL_sI, gL_sL, gL_sA, gL_sM, aI_sI, aI_sL, aI_sA, aI_sM, aL_sI, aL_sL, aL_sA, aL_sM]
          unfold Qv_judgeStepA
          try dsimp only
          exact ⟨rfl, hz2⟩
        · intro x1 x2 x3 Y hz
          refine hB _ _ _ _ _ (fun m1 hm1 => ?_)
          dsimp only [ugo, uwp, ust, uct, rfd, BjudgeStep, BjudgeStep_547, Nat.beq, lv_args, rlk, rs1, rs2, rdl, rky, rcd, rno, rsw, Value.category, List.filter, List.take, List.drop, List.reverse, List.reverseAux, List.cons_append, List.nil_append, Option.toList, Int.toNat, Int.reduceToNat, if_pos, if_neg, reduceIte, ↓reduceIte, Nat.reduceAdd, Nat.reduceEqDiff, Nat.reduceBEq, beq_self_eq_true, Bool.not_true, Bool.not_false, Bool.and_true, Bool.and_false, Bool.true_and, Bool.false_and, gI_sI, gI_sL, gI_sA, gI_sM, gL_sI, gL_sL, gL_sA, gL_sM, aI_sI, aI_sL, aI_sA, aI_sM, aL_sI, aL_sL, aL_sA, aL_sM, oi_1]; try dsimp only
          refine ⟨trivial, fun w2 τ2 hq2 => ?_⟩
          obtain ⟨rfl, b2, rfl, hb2⟩ := hq2 trivial
          dsimp only [Option.toList, List.cons_append, List.nil_append, Nat.beq, gI_sI, gI_sL, gI_sA, gI_sM, gL_sI, gL_sL, gL_sA, gL_sM, aI_sI, aI_sL, aI_sA, aI_sM, aL_sI, aL_sL, aL_sA, aL_sM]
          refine ⟨fun h3 => ?_, fun h3 => ?_⟩
          · exact hW _ 594 [(0, .ref 1000), (1, .int x1), (2, .int x2), (3, .int x3)] _ _ _ (by simp [rdl, rky, Value.category]) ((ih m1 hm1).2.2.2.2.2.2.2.2.2.2.2.2.2.2.2.2.2.2.2.2.2.2.2.2.2.2.2.2.2.2.2.2.2.2.2.2.2.1 x1 x2 x3 _ hz)
          · exact hW _ 568 [(0, .ref 1000), (1, .int x1), (2, .int x2), (3, .int x3)] _ _ _ (by simp [rdl, rky, Value.category]) ((ih m1 hm1).2.2.2.2.2.2.2.2.2.2.2.2.2.2.2.2.2.2.2.2.2.2.2.2.2.2.2.2.2.2.2.2.2.2.2.1 x1 x2 x3 _ hz)
        · intro x1 x2 x3 Y hz
          refine hB _ _ _ _ _ (fun m1 hm1 => ?_)
          dsimp only [ugo, uwp, ust, uct, rfd, BjudgeStep, BjudgeStep_568, Nat.beq, lv_args, rlk, rs1, rs2, rdl, rky, rcd, rno, rsw, Value.category, List.filter, List.take, List.drop, List.reverse, List.reverseAux, List.cons_append, List.nil_append, Option.toList, Int.toNat, Int.reduceToNat, if_pos, if_neg, reduceIte, ↓reduceIte, Nat.reduceAdd, Nat.reduceEqDiff, Nat.reduceBEq, beq_self_eq_true, Bool.not_true, Bool.not_false, Bool.and_true, Bool.and_false, Bool.true_and, Bool.false_and, gI_sI, gI_sL, gI_sA, gI_sM, gL_sI, gL_sL, gL_sA, gL_sM, aI_sI, aI_sL, aI_sA, aI_sM, aL_sI, aL_sL, aL_sA, aL_sM, oi_3]; try dsimp only
          refine ⟨trivial, fun w2 τ2 hq2 => ?_⟩
          obtain ⟨rfl, b2, rfl, hb2⟩ := hq2 trivial
          dsimp only [Option.toList, List.cons_append, List.nil_append, Nat.beq, gI_sI, gI_sL, gI_sA, gI_sM, gL_sI, gL_sL, gL_sA, gL_sM, aI_sI, aI_sL, aI_sA, aI_sM, aL_sI, aL_sL, aL_sA, aL_sM]
          refine ⟨fun h3 => ?_, fun h3 => ?_⟩
          · exact hW _ 594 [(0, .ref 1000), (1, .int x1), (2, .int x2), (3, .int x3)] _ _ _ (by simp [rdl, rky, Value.category]) ((ih m1 hm1).2.2.2.2.2.2.2.2.2.2.2.2.2.2.2.2.2.2.2.2.2.2.2.2.2.2.2.2.2.2.2.2.2.2.2.2.2.1 x1 x2 x3 _ hz)
          · exact hW _ 580 [(0, .ref 1000), (1, .int x1), (2, .int x2), (3, .int x3)] _ _ _ (by simp [rdl, rky, Value.category]) ((ih m1 hm1).2.2.2.2.2.2.2.2.2.2.2.2.2.2.2.2.2.2.2.2.2.2.2.2.2.2.2.2.2.2.2.2.2.2.2.2.1 x1 x2 x3 _ hz)
        · intro x1 x2 x3 Y hz
          refine hB _ _ _ _ _ (fun m1 hm1 => ?_)
          dsimp only [ugo, uwp, ust, uct, rfd, BjudgeStep, BjudgeStep_580, Nat.beq, lv_args, rlk, rs1, rs2, rdl, rky, rcd, rno, rsw, Value.category, List.filter, List.take, List.drop, List.reverse, List.reverseAux, List.cons_append, List.nil_append, Option.toList, Int.toNat, Int.reduceToNat, if_pos, if_neg, reduceIte, ↓reduceIte, Nat.reduceAdd, Nat.reduceEqDiff, Nat.reduceBEq, beq_self_eq_true, Bool.not_true, Bool.not_false, Bool.and_true, Bool.and_false, Bool.true_and, Bool.false_and, gI_sI, gI_sL, gI_sA, gI_sM, gL_sI, gL_sL, gL_sA, gL_sM, aI_sI, aI_sL, aI_sA, aI_sM, aL_sI, aL_sL, aL_sA, aL_sM, oi_5]; try dsimp only
          intro p2
          refine ⟨trivial, fun w3 τ3 hq3 => ?_⟩
          obtain ⟨rfl, hz3⟩ := hq3 (show ¬ (5 : Int32) = 0 by decide)
          dsimp only [Option.toList, List.cons_append, List.nil_append, Nat.beq, gI_sI, gI_sL, gI_sA, gI_sM, gL_sI, gL_sL, gL_sA, gL_sM, aI_sI, aI_sL, aI_sA, aI_sM, aL_sI, aL_sL, aL_sA, aL_sM]
          exact hW _ 594 [(0, .ref 1000), (1, .int x1), (2, .int x2), (3, .int x3)] _ _ _ (by simp [rdl, rky, Value.category]) ((ih m1 hm1).2.2.2.2.2.2.2.2.2.2.2.2.2.2.2.2.2.2.2.2.2.2.2.2.2.2.2.2.2.2.2.2.2.2.2.2.2.1 x1 x2 x3 _ hz3)
        · intro x1 x2 x3 Y hz
          refine hB _ _ _ _ _ (fun m1 hm1 => ?_)
          dsimp only [ugo, uwp, ust, uct, rfd, BjudgeStep, BjudgeStep_594, Nat.beq, lv_args, rlk, rs1, rs2, rdl, rky, rcd, rno, rsw, Value.category, List.filter, List.take, List.drop, List.reverse, List.reverseAux, List.cons_append, List.nil_append, Option.toList, Int.toNat, Int.reduceToNat, if_pos, if_neg, reduceIte, ↓reduceIte, Nat.reduceAdd, Nat.reduceEqDiff, Nat.reduceBEq, beq_self_eq_true, Bool.not_true, Bool.not_false, Bool.and_true, Bool.and_false, Bool.true_and, Bool.false_and, gI_sI, gI_sL, gI_sA, gI_sM, gL_sI, gL_sL, gL_sA, gL_sM, aI_sI, aI_sL, aI_sA, aI_sM, aL_sI, aL_sL, aL_sA, aL_sM]; try dsimp only
          unfold Qv_judgeStepA
          try dsimp only
          exact ⟨rfl, hz⟩
        · intro x1 x2 x3 Y hz
          refine hB _ _ _ _ _ (fun m1 hm1 => ?_)
          dsimp only [ugo, uwp, ust, uct, rfd, BjudgeStep, BjudgeStep_595, Nat.beq, lv_args, rlk, rs1, rs2, rdl, rky, rcd, rno, rsw, Value.category, List.filter, List.take, List.drop, List.reverse, List.reverseAux, List.cons_append, List.nil_append, Option.toList, Int.toNat, Int.reduceToNat, if_pos, if_neg, reduceIte, ↓reduceIte, Nat.reduceAdd, Nat.reduceEqDiff, Nat.reduceBEq, beq_self_eq_true, Bool.not_true, Bool.not_false, Bool.and_true, Bool.and_false, Bool.true_and, Bool.false_and, gI_sI, gI_sL, gI_sA, gI_sM, gL_sI, gL_sL, gL_sA, gL_sM, aI_sI, aI_sL, aI_sA, aI_sM, aL_sI, aL_sL, aL_sA, aL_sM, oi_1]; try dsimp only
          unfold Qv_judgeStepA
          try dsimp only
          exact ⟨rfl, hz⟩
        · intro x1 x2 x3 Y hz
          refine hB _ _ _ _ _ (fun m1 hm1 => ?_)
          dsimp only [ugo, uwp, ust, uct, rfd, BjudgeStep, BjudgeStep_606, Nat.beq, lv_args, rlk, rs1, rs2, rdl, rky, rcd, rno, rsw, Value.category, List.filter, List.take, List.drop, List.reverse, List.reverseAux, List.cons_append, List.nil_append, Option.toList, Int.toNat, Int.reduceToNat, if_pos, if_neg, reduceIte, ↓reduceIte, Nat.reduceAdd, Nat.reduceEqDiff, Nat.reduceBEq, beq_self_eq_true, Bool.not_true, Bool.not_false, Bool.and_true, Bool.and_false, Bool.true_and, Bool.false_and, gI_sI, gI_sL, gI_sA, gI_sM, gL_sI, gL_sL, gL_sA, gL_sM, aI_sI, aI_sL, aI_sA, aI_sM, aL_sI, aL_sL, aL_sA, aL_sM]; try dsimp only
          unfold Qv_judgeStepA
          try dsimp only
          exact ⟨rfl, hz⟩
    intro n0
    exact (all n0).1 c σ hP
  next => exact hP.elim
theorem w_judgeStepA : UMet 105 (fun _ _ => True) Qw_judgeStepA := fun A1 σ _ w τ h hP => v_judgeStepA A1 σ hP w τ h
def Pv_judgeStepB (e : TvT) (vt : Int × Int) (rt kt : Int) : UP1 := fun A1 σ => match A1 with
  | [.int c] => gI σ 66 = 0 ∧ (((aI σ 19 c.toNatClampNeg).toInt = 21 ∨ ((aI σ 19 c.toNatClampNeg).toInt = 22 ∧ ¬ (aI σ 21 c.toNatClampNeg) = 0 ∧ ¬ (aI σ 21 c.toNatClampNeg) = 2) ∨ (aI σ 19 c.toNatClampNeg).toInt = 23 ∨ (aI σ 19 c.toNatClampNeg).toInt = 27 ∨ (aI σ 19 c.toNatClampNeg).toInt = 31 ∨ ((aI σ 19 c.toNatClampNeg).toInt = 33 ∧ ¬ (aI σ 21 c.toNatClampNeg) = 0) ∨ (aI σ 19 c.toNatClampNeg).toInt = 37 ∨ (aI σ 19 c.toNatClampNeg).toInt = 38 ∨ ((aI σ 19 c.toNatClampNeg).toInt = 48 ∧ ¬ (aI σ 20 c.toNatClampNeg) = 0) ∨ (aI σ 19 c.toNatClampNeg).toInt = 49) → TeR σ (gI σ 69 - 1).toNatClampNeg e) ∧ ((aI σ 19 c.toNatClampNeg).toInt = 22 → ¬ (aI σ 21 c.toNatClampNeg) = 2 → (aI σ 44 (aI σ 20 c.toNatClampNeg).toNatClampNeg).toInt = vt.1 ∧ (¬ aI σ 45 (aI σ 20 c.toNatClampNeg).toNatClampNeg = 0 ↔ ¬ vt.2 = 0) ∧ (0 ≤ vt.1 ∧ vt.1 ≤ 4)) ∧ ((aI σ 19 c.toNatClampNeg).toInt = 48 → (if gI σ 89 = 10 then (5 : Int32) else if gI σ 89 = 11 then 3 else aI σ 38 (gI σ 89).toNatClampNeg).toInt = rt) ∧ ((aI σ 19 c.toNatClampNeg).toInt = 38 → (aI σ 88 (aI σ 20 c.toNatClampNeg).toNatClampNeg).toInt = kt ∧ (1 ≤ kt ∧ kt ≤ 3) ∧ (aI σ 51 (aI σ 20 c.toNatClampNeg).toNatClampNeg).toInt ≤ c.toInt ∧ 0 ≤ (aI σ 51 (aI σ 20 c.toNatClampNeg).toNatClampNeg).toInt)
  | _ => False
def Qv_judgeStepB (e : TvT) (vt : Int × Int) (rt kt : Int) : UQ1 := fun A1 σ w τ => match A1 with
  | [.int c] => w = none ∧ ∃ ok F, StR σ c e vt rt kt ok F ∧ ((¬ ok ∧ ¬ gI τ 66 = 0) ∨ (ok ∧ F τ))
  | _ => False
def Qw_judgeStepB : UQ1 := fun A1 σ w τ => ∀ (e : TvT) (vt : Int × Int) (rt kt : Int), Pv_judgeStepB e vt rt kt A1 σ → Qv_judgeStepB e vt rt kt A1 σ w τ
set_option maxRecDepth 100000 in
set_option maxHeartbeats 4000000 in
theorem v_judgeStepB (e : TvT) (vt : Int × Int) (rt kt : Int) : UMet 105 (Pv_judgeStepB e vt rt kt) (Qv_judgeStepB e vt rt kt) := by
  refine UMet.by BjudgeStep [(108, (fun _ _ => True), Qw_casedJ), (107, (fun _ _ => True), Qw_declaredJ), (70, (fun _ _ => True), Qw_err), (75, (fun _ _ => True), Qw_fits), (79, (fun _ _ => True), Qw_isBad), (106, (fun _ _ => True), Qw_keep), (80, (fun _ _ => True), Qw_need), (109, (fun _ _ => True), Qw_returnsJ), (63, (fun _ _ => True), Qw_sameNameZ)] rfl (ucc w_casedJ (ucc w_declaredJ (ucc w_err (ucc w_fits (ucc w_isBad (ucc w_keep (ucc w_need (ucc w_returnsJ (ucc w_sameNameZ uc0))))))))) ?_
  intro A1 σ hP K hB hW
  unfold Pv_judgeStepB at hP
  split at hP
  next c =>
    obtain ⟨hE, hte, hv, hrt, hcs⟩ := hP
    have bad : (∃ ok F, StR σ c e vt rt kt ok F ∧ ¬ ok) → ∀ N : Nat, (∀ (x1 : Int32) (Y : RS), ¬ gI Y 66 = 0 → K N 0 [(0, .ref 1000), (1, .int x1)] [] Y) ∧ (∀ (x1 : Int32) (x2 : Int32) (x3 : Int32) (Y : RS), ¬ gI Y 66 = 0 → K N 172 [(0, .ref 1000), (1, .int x1), (2, .int x2), (3, .int x3)] [] Y) ∧ (∀ (x1 : Int32) (x2 : Int32) (x3 : Int32) (Y : RS), ¬ gI Y 66 = 0 → K N 201 [(0, .ref 1000), (1, .int x1), (2, .int x2), (3, .int x3)] [] Y) ∧ (∀ (x1 : Int32) (x2 : Int32) (x3 : Int32) (Y : RS), ¬ gI Y 66 = 0 → K N 208 [(0, .ref 1000), (1, .int x1), (2, .int x2), (3, .int x3)] [] Y) ∧ (∀ (x1 : Int32) (x2 : Int32) (x3 : Int32) (Y : RS), ¬ gI Y 66 = 0 → K N 209 [(0, .ref 1000), (1, .int x1), (2, .int x2), (3, .int x3)] [] Y) ∧ (∀ (x1 : Int32) (x2 : Int32) (x3 : Int32) (Y : RS), ¬ gI Y 66 = 0 → K N 219 [(0, .ref 1000), (1, .int x1), (2, .int x2), (3, .int x3)] [] Y) ∧ (∀ (x1 : Int32) (x2 : Int32) (x3 : Int32) (Y : RS), ¬ gI Y 66 = 0 → K N 225 [(0, .ref 1000), (1, .int x1), (2, .int x2), (3, .int x3)] [] Y) ∧ (∀ (x1 : Int32) (x2 : Int32) (x3 : Int32) (Y : RS), ¬ gI Y 66 = 0 → K N 226 [(0, .ref 1000), (1, .int x1), (2, .int x2), (3, .int x3)] [] Y) ∧ (∀ (x1 : Int32) (x2 : Int32) (x3 : Int32) (Y : RS), ¬ gI Y 66 = 0 → K N 253 [(0, .ref 1000), (1, .int x1), (2, .int x2), (3, .int x3)] [] Y) ∧ (∀ (x1 : Int32) (x2 : Int32) (x3 : Int32) (Y : RS), ¬ gI Y 66 = 0 → K N 276 [(0, .ref 1000), (1, .int x1), (2, .int x2), (3, .int x3)] [] Y) ∧ (∀ (x1 : Int32) (x2 : Int32) (x3 : Int32) (Y : RS), ¬ gI Y 66 = 0 → K N 277 [(0, .ref 1000), (1, .int x1), (2, .int x2), (3, .int x3)] [] Y) ∧ (∀ (x1 : Int32) (x2 : Int32) (x3 : Int32) (Y : RS), ¬ gI Y 66 = 0 → K N 304 [(0, .ref 1000), (1, .int x1), (2, .int x2), (3, .int x3)] [] Y) ∧ (∀ (x1 : Int32) (x2 : Int32) (x3 : Int32) (Y : RS), ¬ gI Y 66 = 0 → K N 340 [(0, .ref 1000), (1, .int x1), (2, .int x2), (3, .int x3)] [] Y) ∧ (∀ (x1 : Int32) (x2 : Int32) (x3 : Int32) (Y : RS), ¬ gI Y 66 = 0 → K N 353 [(0, .ref 1000), (1, .int x1), (2, .int x2), (3, .int x3)] [] Y) ∧ (∀ (x1 : Int32) (x2 : Int32) (x3 : Int32) (Y : RS), ¬ gI Y 66 = 0 → K N 366 [(0, .ref 1000), (1, .int x1), (2, .int x2), (3, .int x3)] [] Y) ∧ (∀ (x1 : Int32) (x2 : Int32) (x3 : Int32) (Y : RS), ¬ gI Y 66 = 0 → K N 388 [(0, .ref 1000), (1, .int x1), (2, .int x2), (3, .int x3)] [] Y) ∧ (∀ (x1 : Int32) (x2 : Int32) (x3 : Int32) (Y : RS), ¬ gI Y 66 = 0 → K N 389 [(0, .ref 1000), (1, .int x1), (2, .int x2), (3, .int x3)] [] Y) ∧ (∀ (x1 : Int32) (x2 : Int32) (x3 : Int32) (Y : RS), ¬ gI Y 66 = 0 → K N 396 [(0, .ref 1000), (1, .int x1), (2, .int x2), (3, .int x3)] [] Y) ∧ (∀ (x1 : Int32) (x2 : Int32) (x3 : Int32) (Y : RS), ¬ gI Y 66 = 0 → K N 405 [(0, .ref 1000), (1, .int x1), (2, .int x2), (3, .int x3)] [] Y) ∧ (∀ (x1 : Int32) (x2 : Int32) (x3 : Int32) (Y : RS), ¬ gI Y 66 = 0 → K N 415 [(0, .ref 1000), (1, .int x1), (2, .int x2), (3, .int x3)] [] Y) ∧ (∀ (x1 : Int32) (x2 : Int32) (x3 : Int32) (Y : RS), ¬ gI Y 66 = 0 → K N 422 [(0, .ref 1000), (1, .int x1), (2, .int x2), (3, .int x3)] [] Y) ∧ (∀ (x1 : Int32) (x2 : Int32) (x3 : Int32) (Y : RS), ¬ gI Y 66 = 0 → K N 423 [(0, .ref 1000), (1, .int x1), (2, .int x2), (3, .int x3)] [] Y) ∧ (∀ (x1 : Int32) (x2 : Int32) (x3 : Int32) (x6 : Int32) (Y : RS), ¬ gI Y 66 = 0 → K N 435 [(0, .ref 1000), (1, .int x1), (2, .int x2), (3, .int x3), (6, .int x6)] [] Y) ∧ (∀ (x1 : Int32) (x2 : Int32) (x3 : Int32) (x6 : Int32) (Y : RS), ¬ gI Y 66 = 0 → K N 444 [(0, .ref 1000), (1, .int x1), (2, .int x2), (3, .int x3), (6, .int x6)] [] Y) ∧ (∀ (x1 : Int32) (x2 : Int32) (x3 : Int32) (x6 : Int32) (Y : RS), ¬ gI Y 66 = 0 → K N 464 [(0, .ref 1000), (1, .int x1), (2, .int x2), (3, .int x3), (6, .int x6)] [] Y) ∧ (∀ (x1 : Int32) (x2 : Int32) (x3 : Int32) (x6 : Int32) (Y : RS), ¬ gI Y 66 = 0 → K N 471 [(0, .ref 1000), (1, .int x1), (2, .int x2), (3, .int x3), (6, .int x6)] [] Y) ∧ (∀ (x1 : Int32) (x2 : Int32) (x3 : Int32) (x6 : Int32) (Y : RS), ¬ gI Y 66 = 0 → K N 477 [(0, .ref 1000), (1, .int x1), (2, .int x2), (3, .int x3), (6, .int x6)] [] Y) ∧ (∀ (x1 : Int32) (x2 : Int32) (x3 : Int32) (Y : RS), ¬ gI Y 66 = 0 → K N 498 [(0, .ref 1000), (1, .int x1), (2, .int x2), (3, .int x3)] [] Y) ∧ (∀ (x1 : Int32) (x2 : Int32) (x3 : Int32) (Y : RS), ¬ gI Y 66 = 0 → K N 509 [(0, .ref 1000), (1, .int x1), (2, .int x2), (3, .int x3)] [] Y) ∧ (∀ (x1 : Int32) (x2 : Int32) (x3 : Int32) (Y : RS), ¬ gI Y 66 = 0 → K N 519 [(0, .ref 1000), (1, .int x1), (2, .int x2), (3, .int x3)] [] Y) ∧ (∀ (x1 : Int32) (x2 : Int32) (x3 : Int32) (Y : RS), ¬ gI Y 66 = 0 → K N 528 [(0, .ref 1000), (1, .int x1), (2, .int x2), (3, .int x3)] [] Y) ∧ (∀ (x1 : Int32) (x2 : Int32) (x3 : Int32) (Y : RS), ¬ gI Y 66 = 0 → K N 532 [(0, .ref 1000), (1, .int x1), (2, .int x2), (3, .int x3)] [] Y) ∧ (∀ (x1 : Int32) (x2 : Int32) (x3 : Int32) (Y : RS), ¬ gI Y 66 = 0 → K N 539 [(0, .ref 1000), (1, .int x1), (2, .int x2), (3, .int x3)] [] Y) ∧ (∀ (x1 : Int32) (x2 : Int32) (x3 : Int32) (Y : RS), ¬ gI Y 66 = 0 → K N 540 [(0, .ref 1000), (1, .int x1), (2, .int x2), (3, .int x3)] [] Y) ∧ (∀ (x1 : Int32) (x2 : Int32) (x3 : Int32) (Y : RS), ¬ gI Y 66 = 0 → K N 547 [(0, .ref 1000), (1, .int x1), (2, .int x2), (3, .int x3)] [] Y) ∧ (∀ (x1 : Int32) (x2 : Int32) (x3 : Int32) (Y : RS), ¬ gI Y 66 = 0 → K N 568 [(0, .ref 1000), (1, .int x1), (2, .int x2), (3, .int x3)] [] Y) ∧ (∀ (x1 : Int32) (x2 : Int32) (x3 : Int32) (Y : RS), ¬ gI Y 66 = 0 → K N 580 [(0, .ref 1000), (1, .int x1), (2, .int x2), (3, .int x3)] [] Y) ∧ (∀ (x1 : Int32) (x2 : Int32) (x3 : Int32) (Y : RS), ¬ gI Y 66 = 0 → K N 594 [(0, .ref 1000), (1, .int x1), (2, .int x2), (3, .int x3)] [] Y) ∧ (∀ (x1 : Int32) (x2 : Int32) (x3 : Int32) (Y : RS), ¬ gI Y 66 = 0 → K N 595 [(0, .ref 1000), (1, .int x1), (2, .int x2), (3, .int x3)] [] Y) ∧ (∀ (x1 : Int32) (x2 : Int32) (x3 : Int32) (Y : RS), ¬ gI Y 66 = 0 → K N 606 [(0, .ref 1000), (1, .int x1), (2, .int x2), (3, .int x3)] [] Y) := by
      intro hnn
      obtain ⟨ok, F, hs1, hs2⟩ := hnn
      intro N
      induction N using Nat.strongRecOn with
      | ind N ih =>
        refine ⟨?_, ?_, ?_, ?_, ?_, ?_, ?_, ?_, ?_, ?_, ?_, ?_, ?_, ?_, ?_, ?_, ?_, ?_, ?_, ?_, ?_, ?_, ?_, ?_, ?_, ?_, ?_, ?_, ?_, ?_, ?_, ?_, ?_, ?_, ?_, ?_, ?_, ?_, ?_, ?_⟩
        · intro x1 Y hz
          refine hB _ _ _ _ _ (fun m1 hm1 => ?_)
          dsimp only [ugo, uwp, ust, uct, rfd, BjudgeStep, BjudgeStep_0, Nat.beq, lv_args, rlk, rs1, rs2, rdl, rky, rcd, rno, rsw, Value.category, List.filter, List.take, List.drop, List.reverse, List.reverseAux, List.cons_append, List.nil_append, Option.toList, Int.toNat, Int.reduceToNat, if_pos, if_neg, reduceIte, ↓reduceIte, Nat.reduceAdd, Nat.reduceEqDiff, Nat.reduceBEq, beq_self_eq_true, Bool.not_true, Bool.not_false, Bool.and_true, Bool.and_false, Bool.true_and, Bool.false_and, gI_sI, gI_sL, gI_sA, gI_sM, gL_sI, gL_sL, gL_sA, gL_sM, aI_sI, aI_sL, aI_sA, aI_sM, aL_sI, aL_sL, aL_sA, aL_sM]; try dsimp only
          intro p2
          intro p3
          intro p4
          refine ⟨fun h5 => ?_, fun h5 => ?_⟩
          · exact hW _ 172 [(0, .ref 1000), (1, .int x1), (2, .int ((aI Y 20) (x1).toNatClampNeg)), (3, .int ((aI Y 22) (x1).toNatClampNeg))] _ _ _ (by simp [rdl, rky, Value.category]) ((ih m1 hm1).2.1 x1 ((aI Y 20) (x1).toNatClampNeg) ((aI Y 22) (x1).toNatClampNeg) _ hz)
          refine ⟨fun h6 => ?_, fun h6 => ?_⟩
          · exact hW _ 209 [(0, .ref 1000), (1, .int x1), (2, .int ((aI Y 20) (x1).toNatClampNeg)), (3, .int ((aI Y 22) (x1).toNatClampNeg))] _ _ _ (by simp [rdl, rky, Value.category]) ((ih m1 hm1).2.2.2.2.1 x1 ((aI Y 20) (x1).toNatClampNeg) ((aI Y 22) (x1).toNatClampNeg) _ hz)
          refine ⟨fun h7 => ?_, fun h7 => ?_⟩
          · exact hW _ 226 [(0, .ref 1000), (1, .int x1), (2, .int ((aI Y 20) (x1).toNatClampNeg)), (3, .int ((aI Y 22) (x1).toNatClampNeg))] _ _ _ (by simp [rdl, rky, Value.category]) ((ih m1 hm1).2.2.2.2.2.2.2.1 x1 ((aI Y 20) (x1).toNatClampNeg) ((aI Y 22) (x1).toNatClampNeg) _ hz)
          refine ⟨fun h8 => ?_, fun h8 => ?_⟩
          · exact hW _ 606 [(0, .ref 1000), (1, .int x1), (2, .int ((aI Y 20) (x1).toNatClampNeg)), (3, .int ((aI Y 22) (x1).toNatClampNeg))] _ _ _ (by simp [rdl, rky, Value.category]) ((ih m1 hm1).2.2.2.2.2.2.2.2.2.2.2.2.2.2.2.2.2.2.2.2.2.2.2.2.2.2.2.2.2.2.2.2.2.2.2.2.2.2.2 x1 ((aI Y 20) (x1).toNatClampNeg) ((aI Y 22) (x1).toNatClampNeg) _ hz)
          refine ⟨fun h9 => ?_, fun h9 => ?_⟩
          · exact hW _ 606 [(0, .ref 1000), (1, .int x1), (2, .int ((aI Y 20) (x1).toNatClampNeg)), (3, .int ((aI Y 22) (x1).toNatClampNeg))] _ _ _ (by simp [rdl, rky, Value.category]) ((ih m1 hm1).2.2.2.2.2.2.2.2.2.2.2.2.2.2.2.2.2.2.2.2.2.2.2.2.2.2.2.2.2.2.2.2.2.2.2.2.2.2.2 x1 ((aI Y 20) (x1).toNatClampNeg) ((aI Y 22) (x1).toNatClampNeg) _ hz)
          refine ⟨fun h10 => ?_, fun h10 => ?_⟩
          · exact hW _ 606 [(0, .ref 1000), (1, .int x1), (2, .int ((aI Y 20) (x1).toNatClampNeg)), (3, .int ((aI Y 22) (x1).toNatClampNeg))] _ _ _ (by simp [rdl, rky, Value.category]) ((ih m1 hm1).2.2.2.2.2.2.2.2.2.2.2.2.2.2.2.2.2.2.2.2.2.2.2.2.2.2.2.2.2.2.2.2.2.2.2.2.2.2.2 x1 ((aI Y 20) (x1).toNatClampNeg) ((aI Y 22) (x1).toNatClampNeg) _ hz)
          refine ⟨fun h11 => ?_, fun h11 => ?_⟩
          · exact hW _ 226 [(0, .ref 1000), (1, .int x1), (2, .int ((aI Y 20) (x1).toNatClampNeg)), (3, .int ((aI Y 22) (x1).toNatClampNeg))] _ _ _ (by simp [rdl, rky, Value.category]) ((ih m1 hm1).2.2.2.2.2.2.2.1 x1 ((aI Y 20) (x1).toNatClampNeg) ((aI Y 22) (x1).toNatClampNeg) _ hz)
          refine ⟨fun h12 => ?_, fun h12 => ?_⟩
          · exact hW _ 606 [(0, .ref 1000), (1, .int x1), (2, .int ((aI Y 20) (x1).toNatClampNeg)), (3, .int ((aI Y 22) (x1).toNatClampNeg))] _ _ _ (by simp [rdl, rky, Value.category]) ((ih m1 hm1).2.2.2.2.2.2.2.2.2.2.2.2.2.2.2.2.2.2.2.2.2.2.2.2.2.2.2.2.2.2.2.2.2.2.2.2.2.2.2 x1 ((aI Y 20) (x1).toNatClampNeg) ((aI Y 22) (x1).toNatClampNeg) _ hz)
          refine ⟨fun h13 => ?_, fun h13 => ?_⟩
          · exact hW _ 606 [(0, .ref 1000), (1, .int x1), (2, .int ((aI Y 20) (x1).toNatClampNeg)), (3, .int ((aI Y 22) (x1).toNatClampNeg))] _ _ _ (by simp [rdl, rky, Value.category]) ((ih m1 hm1).2.2.2.2.2.2.2.2.2.2.2.2.2.2.2.2.2.2.2.2.2.2.2.2.2.2.2.2.2.2.2.2.2.2.2.2.2.2.2 x1 ((aI Y 20) (x1).toNatClampNeg) ((aI Y 22) (x1).toNatClampNeg) _ hz)
          refine ⟨fun h14 => ?_, fun h14 => ?_⟩
          · exact hW _ 606 [(0, .ref 1000), (1, .int x1), (2, .int ((aI Y 20) (x1).toNatClampNeg)), (3, .int ((aI Y 22) (x1).toNatClampNeg))] _ _ _ (by simp [rdl, rky, Value.category]) ((ih m1 hm1).2.2.2.2.2.2.2.2.2.2.2.2.2.2.2.2.2.2.2.2.2.2.2.2.2.2.2.2.2.2.2.2.2.2.2.2.2.2.2 x1 ((aI Y 20) (x1).toNatClampNeg) ((aI Y 22) (x1).toNatClampNeg) _ hz)
          refine ⟨fun h15 => ?_, fun h15 => ?_⟩
          · exact hW _ 226 [(0, .ref 1000), (1, .int x1), (2, .int ((aI Y 20) (x1).toNatClampNeg)), (3, .int ((aI Y 22) (x1).toNatClampNeg))] _ _ _ (by simp [rdl, rky, Value.category]) ((ih m1 hm1).2.2.2.2.2.2.2.1 x1 ((aI Y 20) (x1).toNatClampNeg) ((aI Y 22) (x1).toNatClampNeg) _ hz)
          refine ⟨fun h16 => ?_, fun h16 => ?_⟩
          · exact hW _ 606 [(0, .ref 1000), (1, .int x1), (2, .int ((aI Y 20) (x1).toNatClampNeg)), (3, .int ((aI Y 22) (x1).toNatClampNeg))] _ _ _ (by simp [rdl, rky, Value.category]) ((ih m1 hm1).2.2.2.2.2.2.2.2.2.2.2.2.2.2.2.2.2.2.2.2.2.2.2.2.2.2.2.2.2.2.2.2.2.2.2.2.2.2.2 x1 ((aI Y 20) (x1).toNatClampNeg) ((aI Y 22) (x1).toNatClampNeg) _ hz)
          refine ⟨fun h17 => ?_, fun h17 => ?_⟩
          · exact hW _ 253 [(0, .ref 1000), (1, .int x1), (2, .int ((aI Y 20) (x1).toNatClampNeg)), (3, .int ((aI Y 22) (x1).toNatClampNeg))] _ _ _ (by simp [rdl, rky, Value.category]) ((ih m1 hm1).2.2.2.2.2.2.2.2.1 x1 ((aI Y 20) (x1).toNatClampNeg) ((aI Y 22) (x1).toNatClampNeg) _ hz)
          refine ⟨fun h18 => ?_, fun h18 => ?_⟩
          · exact hW _ 606 [(0, .ref 1000), (1, .int x1), (2, .int ((aI Y 20) (x1).toNatClampNeg)), (3, .int ((aI Y 22) (x1).toNatClampNeg))] _ _ _ (by simp [rdl, rky, Value.category]) ((ih m1 hm1).2.2.2.2.2.2.2.2.2.2.2.2.2.2.2.2.2.2.2.2.2.2.2.2.2.2.2.2.2.2.2.2.2.2.2.2.2.2.2 x1 ((aI Y 20) (x1).toNatClampNeg) ((aI Y 22) (x1).toNatClampNeg) _ hz)
          refine ⟨fun h19 => ?_, fun h19 => ?_⟩
          · exact hW _ 606 [(0, .ref 1000), (1, .int x1), (2, .int ((aI Y 20) (x1).toNatClampNeg)), (3, .int ((aI Y 22) (x1).toNatClampNeg))] _ _ _ (by simp [rdl, rky, Value.category]) ((ih m1 hm1).2.2.2.2.2.2.2.2.2.2.2.2.2.2.2.2.2.2.2.2.2.2.2.2.2.2.2.2.2.2.2.2.2.2.2.2.2.2.2 x1 ((aI Y 20) (x1).toNatClampNeg) ((aI Y 22) (x1).toNatClampNeg) _ hz)
          refine ⟨fun h20 => ?_, fun h20 => ?_⟩
          · exact hW _ 606 [(0, .ref 1000), (1, .int x1), (2, .int ((aI Y 20) (x1).toNatClampNeg)), (3, .int ((aI Y 22) (x1).toNatClampNeg))] _ _ _ (by simp [rdl, rky, Value.category]) ((ih m1 hm1).2.2.2.2.2.2.2.2.2.2.2.2.2.2.2.2.2.2.2.2.2.2.2.2.2.2.2.2.2.2.2.2.2.2.2.2.2.2.2 x1 ((aI Y 20) (x1).toNatClampNeg) ((aI Y 22) (x1).toNatClampNeg) _ hz)
          refine ⟨fun h21 => ?_, fun h21 => ?_⟩
          · exact hW _ 304 [(0, .ref 1000), (1, .int x1), (2, .int ((aI Y 20) (x1).toNatClampNeg)), (3, .int ((aI Y 22) (x1).toNatClampNeg))] _ _ _ (by simp [rdl, rky, Value.category]) ((ih m1 hm1).2.2.2.2.2.2.2.2.2.2.2.1 x1 ((aI Y 20) (x1).toNatClampNeg) ((aI Y 22) (x1).toNatClampNeg) _ hz)
          refine ⟨fun h22 => ?_, fun h22 => ?_⟩
          · exact hW _ 389 [(0, .ref 1000), (1, .int x1), (2, .int ((aI Y 20) (x1).toNatClampNeg)), (3, .int ((aI Y 22) (x1).toNatClampNeg))] _ _ _ (by simp [rdl, rky, Value.category]) ((ih m1 hm1).2.2.2.2.2.2.2.2.2.2.2.2.2.2.2.2.1 x1 ((aI Y 20) (x1).toNatClampNeg) ((aI Y 22) (x1).toNatClampNeg) _ hz)
          refine ⟨fun h23 => ?_, fun h23 => ?_⟩
          · exact hW _ 396 [(0, .ref 1000), (1, .int x1), (2, .int ((aI Y 20) (x1).toNatClampNeg)), (3, .int ((aI Y 22) (x1).toNatClampNeg))] _ _ _ (by simp [rdl, rky, Value.category]) ((ih m1 hm1).2.2.2.2.2.2.2.2.2.2.2.2.2.2.2.2.2.1 x1 ((aI Y 20) (x1).toNatClampNeg) ((aI Y 22) (x1).toNatClampNeg) _ hz)
          refine ⟨fun h24 => ?_, fun h24 => ?_⟩
          · exact hW _ 606 [(0, .ref 1000), (1, .int x1), (2, .int ((aI Y 20) (x1).toNatClampNeg)), (3, .int ((aI Y 22) (x1).toNatClampNeg))] _ _ _ (by simp [rdl, rky, Value.category]) ((ih m1 hm1).2.2.2.2.2.2.2.2.2.2.2.2.2.2.2.2.2.2.2.2.2.2.2.2.2.2.2.2.2.2.2.2.2.2.2.2.2.2.2 x1 ((aI Y 20) (x1).toNatClampNeg) ((aI Y 22) (x1).toNatClampNeg) _ hz)
          refine ⟨fun h25 => ?_, fun h25 => ?_⟩
          · exact hW _ 423 [(0, .ref 1000), (1, .int x1), (2, .int ((aI Y 20) (x1).toNatClampNeg)), (3, .int ((aI Y 22) (x1).toNatClampNeg))] _ _ _ (by simp [rdl, rky, Value.category]) ((ih m1 hm1).2.2.2.2.2.2.2.2.2.2.2.2.2.2.2.2.2.2.2.2.2.1 x1 ((aI Y 20) (x1).toNatClampNeg) ((aI Y 22) (x1).toNatClampNeg) _ hz)
          refine ⟨fun h26 => ?_, fun h26 => ?_⟩
          · exact hW _ 498 [(0, .ref 1000), (1, .int x1), (2, .int ((aI Y 20) (x1).toNatClampNeg)), (3, .int ((aI Y 22) (x1).toNatClampNeg))] _ _ _ (by simp [rdl, rky, Value.category]) ((ih m1 hm1).2.2.2.2.2.2.2.2.2.2.2.2.2.2.2.2.2.2.2.2.2.2.2.2.2.2.2.1 x1 ((aI Y 20) (x1).toNatClampNeg) ((aI Y 22) (x1).toNatClampNeg) _ hz)
          refine ⟨fun h27 => ?_, fun h27 => ?_⟩
          · exact hW _ 606 [(0, .ref 1000), (1, .int x1), (2, .int ((aI Y 20) (x1).toNatClampNeg)), (3, .int ((aI Y 22) (x1).toNatClampNeg))] _ _ _ (by simp [rdl, rky, Value.category]) ((ih m1 hm1).2.2.2.2.2.2.2.2.2.2.2.2.2.2.2.2.2.2.2.2.2.2.2.2.2.2.2.2.2.2.2.2.2.2.2.2.2.2.2 x1 ((aI Y 20) (x1).toNatClampNeg) ((aI Y 22) (x1).toNatClampNeg) _ hz)
          refine ⟨fun h28 => ?_, fun h28 => ?_⟩
          · exact hW _ 606 [(0, .ref 1000), (1, .int x1), (2, .int ((aI Y 20) (x1).toNatClampNeg)), (3, .int ((aI Y 22) (x1).toNatClampNeg))] _ _ _ (by simp [rdl, rky, Value.category]) ((ih m1 hm1).2.2.2.2.2.2.2.2.2.2.2.2.2.2.2.2.2.2.2.2.2.2.2.2.2.2.2.2.2.2.2.2.2.2.2.2.2.2.2 x1 ((aI Y 20) (x1).toNatClampNeg) ((aI Y 22) (x1).toNatClampNeg) _ hz)
          refine ⟨fun h29 => ?_, fun h29 => ?_⟩
          · exact hW _ 606 [(0, .ref 1000), (1, .int x1), (2, .int ((aI Y 20) (x1).toNatClampNeg)), (3, .int ((aI Y 22) (x1).toNatClampNeg))] _ _ _ (by simp [rdl, rky, Value.category]) ((ih m1 hm1).2.2.2.2.2.2.2.2.2.2.2.2.2.2.2.2.2.2.2.2.2.2.2.2.2.2.2.2.2.2.2.2.2.2.2.2.2.2.2 x1 ((aI Y 20) (x1).toNatClampNeg) ((aI Y 22) (x1).toNatClampNeg) _ hz)
          refine ⟨fun h30 => ?_, fun h30 => ?_⟩
          · exact hW _ 509 [(0, .ref 1000), (1, .int x1), (2, .int ((aI Y 20) (x1).toNatClampNeg)), (3, .int ((aI Y 22) (x1).toNatClampNeg))] _ _ _ (by simp [rdl, rky, Value.category]) ((ih m1 hm1).2.2.2.2.2.2.2.2.2.2.2.2.2.2.2.2.2.2.2.2.2.2.2.2.2.2.2.2.1 x1 ((aI Y 20) (x1).toNatClampNeg) ((aI Y 22) (x1).toNatClampNeg) _ hz)
          refine ⟨fun h31 => ?_, fun h31 => ?_⟩
          · exact hW _ 509 [(0, .ref 1000), (1, .int x1), (2, .int ((aI Y 20) (x1).toNatClampNeg)), (3, .int ((aI Y 22) (x1).toNatClampNeg))] _ _ _ (by simp [rdl, rky, Value.category]) ((ih m1 hm1).2.2.2.2.2.2.2.2.2.2.2.2.2.2.2.2.2.2.2.2.2.2.2.2.2.2.2.2.1 x1 ((aI Y 20) (x1).toNatClampNeg) ((aI Y 22) (x1).toNatClampNeg) _ hz)
          refine ⟨fun h32 => ?_, fun h32 => ?_⟩
          · exact hW _ 540 [(0, .ref 1000), (1, .int x1), (2, .int ((aI Y 20) (x1).toNatClampNeg)), (3, .int ((aI Y 22) (x1).toNatClampNeg))] _ _ _ (by simp [rdl, rky, Value.category]) ((ih m1 hm1).2.2.2.2.2.2.2.2.2.2.2.2.2.2.2.2.2.2.2.2.2.2.2.2.2.2.2.2.2.2.2.2.2.1 x1 ((aI Y 20) (x1).toNatClampNeg) ((aI Y 22) (x1).toNatClampNeg) _ hz)
          refine ⟨fun h33 => ?_, fun h33 => ?_⟩
          · exact hW _ 547 [(0, .ref 1000), (1, .int x1), (2, .int ((aI Y 20) (x1).toNatClampNeg)), (3, .int ((aI Y 22) (x1).toNatClampNeg))] _ _ _ (by simp [rdl, rky, Value.category]) ((ih m1 hm1).2.2.2.2.2.2.2.2.2.2.2.2.2.2.2.2.2.2.2.2.2.2.2.2.2.2.2.2.2.2.2.2.2.2.1 x1 ((aI Y 20) (x1).toNatClampNeg) ((aI Y 22) (x1).toNatClampNeg) _ hz)
          refine ⟨fun h34 => ?_, fun h34 => ?_⟩
          · exact hW _ 606 [(0, .ref 1000), (1, .int x1), (2, .int ((aI Y 20) (x1).toNatClampNeg)), (3, .int ((aI Y 22) (x1).toNatClampNeg))] _ _ _ (by simp [rdl, rky, Value.category]) ((ih m1 hm1).2.2.2.2.2.2.2.2.2.2.2.2.2.2.2.2.2.2.2.2.2.2.2.2.2.2.2.2.2.2.2.2.2.2.2.2.2.2.2 x1 ((aI Y 20) (x1).toNatClampNeg) ((aI Y 22) (x1).toNatClampNeg) _ hz)
          refine ⟨fun h35 => ?_, fun h35 => ?_⟩
          · exact hW _ 606 [(0, .ref 1000), (1, .int x1), (2, .int ((aI Y 20) (x1).toNatClampNeg)), (3, .int ((aI Y 22) (x1).toNatClampNeg))] _ _ _ (by simp [rdl, rky, Value.category]) ((ih m1 hm1).2.2.2.2.2.2.2.2.2.2.2.2.2.2.2.2.2.2.2.2.2.2.2.2.2.2.2.2.2.2.2.2.2.2.2.2.2.2.2 x1 ((aI Y 20) (x1).toNatClampNeg) ((aI Y 22) (x1).toNatClampNeg) _ hz)
          refine ⟨fun h36 => ?_, fun h36 => ?_⟩
          · exact hW _ 606 [(0, .ref 1000), (1, .int x1), (2, .int ((aI Y 20) (x1).toNatClampNeg)), (3, .int ((aI Y 22) (x1).toNatClampNeg))] _ _ _ (by simp [rdl, rky, Value.category]) ((ih m1 hm1).2.2.2.2.2.2.2.2.2.2.2.2.2.2.2.2.2.2.2.2.2.2.2.2.2.2.2.2.2.2.2.2.2.2.2.2.2.2.2 x1 ((aI Y 20) (x1).toNatClampNeg) ((aI Y 22) (x1).toNatClampNeg) _ hz)
          refine ⟨fun h37 => ?_, fun h37 => ?_⟩
          · exact hW _ 606 [(0, .ref 1000), (1, .int x1), (2, .int ((aI Y 20) (x1).toNatClampNeg)), (3, .int ((aI Y 22) (x1).toNatClampNeg))] _ _ _ (by simp [rdl, rky, Value.category]) ((ih m1 hm1).2.2.2.2.2.2.2.2.2.2.2.2.2.2.2.2.2.2.2.2.2.2.2.2.2.2.2.2.2.2.2.2.2.2.2.2.2.2.2 x1 ((aI Y 20) (x1).toNatClampNeg) ((aI Y 22) (x1).toNatClampNeg) _ hz)
          refine ⟨fun h38 => ?_, fun h38 => ?_⟩
          · exact hW _ 595 [(0, .ref 1000), (1, .int x1), (2, .int ((aI Y 20) (x1).toNatClampNeg)), (3, .int ((aI Y 22) (x1).toNatClampNeg))] _ _ _ (by simp [rdl, rky, Value.category]) ((ih m1 hm1).2.2.2.2.2.2.2.2.2.2.2.2.2.2.2.2.2.2.2.2.2.2.2.2.2.2.2.2.2.2.2.2.2.2.2.2.2.2.1 x1 ((aI Y 20) (x1).toNatClampNeg) ((aI Y 22) (x1).toNatClampNeg) _ hz)
          exact hW _ 606 [(0, .ref 1000), (1, .int x1), (2, .int ((aI Y 20) (x1).toNatClampNeg)), (3, .int ((aI Y 22) (x1).toNatClampNeg))] _ _ _ (by simp [rdl, rky, Value.category]) ((ih m1 hm1).2.2.2.2.2.2.2.2.2.2.2.2.2.2.2.2.2.2.2.2.2.2.2.2.2.2.2.2.2.2.2.2.2.2.2.2.2.2.2 x1 ((aI Y 20) (x1).toNatClampNeg) ((aI Y 22) (x1).toNatClampNeg) _ hz)
        · intro x1 x2 x3 Y hz
          refine hB _ _ _ _ _ (fun m1 hm1 => ?_)
          dsimp only [ugo, uwp, ust, uct, rfd, BjudgeStep, BjudgeStep_172, Nat.beq, lv_args, rlk, rs1, rs2, rdl, rky, rcd, rno, rsw, Value.category, List.filter, List.take, List.drop, List.reverse, List.reverseAux, List.cons_append, List.nil_append, Option.toList, Int.toNat, Int.reduceToNat, if_pos, if_neg, reduceIte, ↓reduceIte, Nat.reduceAdd, Nat.reduceEqDiff, Nat.reduceBEq, beq_self_eq_true, Bool.not_true, Bool.not_false, Bool.and_true, Bool.and_false, Bool.true_and, Bool.false_and, gI_sI, gI_sL, gI_sA, gI_sM, gL_sI, gL_sL, gL_sA, gL_sM, aI_sI, aI_sL, aI_sA, aI_sM, aL_sI, aL_sL, aL_sA, aL_sM, oi_1]; try dsimp only
          intro p2
          intro p3
          refine ⟨fun h4 => ?_, fun h4 => ?_⟩
          · exact hW _ 208 [(0, .ref 1000), (1, .int x1), (2, .int x2), (3, .int x3)] _ _ _ (by simp [rdl, rky, Value.category]) ((ih m1 hm1).2.2.2.1 x1 x2 x3 _ hz)
          · exact hW _ 201 [(0, .ref 1000), (1, .int x1), (2, .int x2), (3, .int x3)] _ _ _ (by simp [rdl, rky, Value.category]) ((ih m1 hm1).2.2.1 x1 x2 x3 _ hz)
        · intro x1 x2 x3 Y hz
          refine hB _ _ _ _ _ (fun m1 hm1 => ?_)
          dsimp only [ugo, uwp, ust, uct, rfd, BjudgeStep, BjudgeStep_201, Nat.beq, lv_args, rlk, rs1, rs2, rdl, rky, rcd, rno, rsw, Value.category, List.filter, List.take, List.drop, List.reverse, List.reverseAux, List.cons_append, List.nil_append, Option.toList, Int.toNat, Int.reduceToNat, if_pos, if_neg, reduceIte, ↓reduceIte, Nat.reduceAdd, Nat.reduceEqDiff, Nat.reduceBEq, beq_self_eq_true, Bool.not_true, Bool.not_false, Bool.and_true, Bool.and_false, Bool.true_and, Bool.false_and, gI_sI, gI_sL, gI_sA, gI_sM, gL_sI, gL_sL, gL_sA, gL_sM, aI_sI, aI_sL, aI_sA, aI_sM, aL_sI, aL_sL, aL_sA, aL_sM, oi_12]; try dsimp only
          refine ⟨trivial, fun w2 τ2 hq2 => ?_⟩
          obtain ⟨rfl, hz2⟩ := hq2 (show ¬ (12 : Int32) = 0 by decide)
          dsimp only [Option.toList, List.cons_append, List.nil_append, Nat.beq, gI_sI, gI_sL, gI_sA, gI_sM, gL_sI, gL_sL, gL_sA, gL_sM, aI_sI, aI_sL, aI_sA, aI_sM, aL_sI, aL_sL, aL_sA, aL_sM]
          exact hW _ 208 [(0, .ref 1000), (1, .int x1), (2, .int x2), (3, .int x3)] _ _ _ (by simp [rdl, rky, Value.category]) ((ih m1 hm1).2.2.2.1 x1 x2 x3 _ hz2)
        · intro x1 x2 x3 Y hz
          refine hB _ _ _ _ _ (fun m1 hm1 => ?_)
          dsimp only [ugo, uwp, ust, uct, rfd, BjudgeStep, BjudgeStep_208, Nat.beq, lv_args, rlk, rs1, rs2, rdl, rky, rcd, rno, rsw, Value.category, List.filter, List.take, List.drop, List.reverse, List.reverseAux, List.cons_append, List.nil_append, Option.toList, Int.toNat, Int.reduceToNat, if_pos, if_neg, reduceIte, ↓reduceIte, Nat.reduceAdd, Nat.reduceEqDiff, Nat.reduceBEq, beq_self_eq_true, Bool.not_true, Bool.not_false, Bool.and_true, Bool.and_false, Bool.true_and, Bool.false_and, gI_sI, gI_sL, gI_sA, gI_sM, gL_sI, gL_sL, gL_sA, gL_sM, aI_sI, aI_sL, aI_sA, aI_sM, aL_sI, aL_sL, aL_sA, aL_sM]; try dsimp only
          unfold Qv_judgeStepB
          try dsimp only
          exact ⟨rfl, ok, F, hs1, Or.inl ⟨hs2, hz⟩⟩
        · intro x1 x2 x3 Y hz
          refine hB _ _ _ _ _ (fun m1 hm1 => ?_)
          dsimp only [ugo, uwp, ust, uct, rfd, BjudgeStep, BjudgeStep_209, Nat.beq, lv_args, rlk, rs1, rs2, rdl, rky, rcd, rno, rsw, Value.category, List.filter, List.take, List.drop, List.reverse, List.reverseAux, List.cons_append, List.nil_append, Option.toList, Int.toNat, Int.reduceToNat, if_pos, if_neg, reduceIte, ↓reduceIte, Nat.reduceAdd, Nat.reduceEqDiff, Nat.reduceBEq, beq_self_eq_true, Bool.not_true, Bool.not_false, Bool.and_true, Bool.and_false, Bool.true_and, Bool.false_and, gI_sI, gI_sL, gI_sA, gI_sM, gL_sI, gL_sL, gL_sA, gL_sM, aI_sI, aI_sL, aI_sA, aI_sM, aL_sI, aL_sL, aL_sA, aL_sM, oi_2]; try dsimp only
          intro p2
          refine ⟨fun h3 => ?_, fun h3 => ?_⟩
          · exact hW _ 225 [(0, .ref 1000), (1, .int x1), (2, .int x2), (3, .int x3)] _ _ _ (by simp [rdl, rky, Value.category]) ((ih m1 hm1).2.2.2.2.2.2.1 x1 x2 x3 _ hz)
          · exact hW _ 219 [(0, .ref 1000), (1, .int x1), (2, .int x2), (3, .int x3)] _ _ _ (by simp [rdl, rky, Value.category]) ((ih m1 hm1).2.2.2.2.2.1 x1 x2 x3 _ hz)
        · intro x1 x2 x3 Y hz
          refine hB _ _ _ _ _ (fun m1 hm1 => ?_)
          dsimp only [ugo, uwp, ust, uct, rfd, BjudgeStep, BjudgeStep_219, Nat.beq, lv_args, rlk, rs1, rs2, rdl, rky, rcd, rno, rsw, Value.category, List.filter, List.take, List.drop, List.reverse, List.reverseAux, List.cons_append, List.nil_append, Option.toList, Int.toNat, Int.reduceToNat, if_pos, if_neg, reduceIte, ↓reduceIte, Nat.reduceAdd, Nat.reduceEqDiff, Nat.reduceBEq, beq_self_eq_true, Bool.not_true, Bool.not_false, Bool.and_true, Bool.and_false, Bool.true_and, Bool.false_and, gI_sI, gI_sL, gI_sA, gI_sM, gL_sI, gL_sL, gL_sA, gL_sM, aI_sI, aI_sL, aI_sA, aI_sM, aL_sI, aL_sL, aL_sA, aL_sM]; try dsimp only
          refine ⟨trivial, fun w2 τ2 hq2 => ?_⟩
          obtain ⟨rfl, hz2⟩ := hq2.1 hz
          dsimp only [Option.toList, List.cons_append, List.nil_append, Nat.beq, gI_sI, gI_sL, gI_sA, gI_sM, gL_sI, gL_sL, gL_sA, gL_sM, aI_sI, aI_sL, aI_sA, aI_sM, aL_sI, aL_sL, aL_sA, aL_sM]
          exact hW _ 225 [(0, .ref 1000), (1, .int x1), (2, .int x2), (3, .int x3)] _ _ _ (by simp [rdl, rky, Value.category]) ((ih m1 hm1).2.2.2.2.2.2.1 x1 x2 x3 _ hz2)
        · intro x1 x2 x3 Y hz
          refine hB _ _ _ _ _ (fun m1 hm1 => ?_)
          dsimp only [ugo, uwp, ust, uct, rfd, BjudgeStep, BjudgeStep_225, Nat.beq, lv_args, rlk, rs1, rs2, rdl, rky, rcd, rno, rsw, Value.category, List.filter, List.take, List.drop, List.reverse, List.reverseAux, List.cons_append, List.nil_append, Option.toList, Int.toNat, Int.reduceToNat, if_pos, if_neg, reduceIte, ↓reduceIte, Nat.reduceAdd, Nat.reduceEqDiff, Nat.reduceBEq, beq_self_eq_true, Bool.not_true, Bool.not_false, Bool.and_true, Bool.and_false, Bool.true_and, Bool.false_and, gI_sI, gI_sL, gI_sA, gI_sM, gL_sI, gL_sL, gL_sA, gL_sM, aI_sI, aI_sL, aI_sA, aI_sM, aL_sI, aL_sL, aL_sA, aL_sM]; try dsimp only
          unfold Qv_judgeStepB
          try dsimp only
          exact ⟨rfl, ok, F, hs1, Or.inl ⟨hs2, hz⟩⟩
        · intro x1 x2 x3 Y hz
          refine hB _ _ _ _ _ (fun m1 hm1 => ?_)
          dsimp only [ugo, uwp, ust, uct, rfd, BjudgeStep, BjudgeStep_226, Nat.beq, lv_args, rlk, rs1, rs2, rdl, rky, rcd, rno, rsw, Value.category, List.filter, List.take, List.drop, List.reverse, List.reverseAux, List.cons_append, List.nil_append, Option.toList, Int.toNat, Int.reduceToNat, if_pos, if_neg, reduceIte, ↓reduceIte, Nat.reduceAdd, Nat.reduceEqDiff, Nat.reduceBEq, beq_self_eq_true, Bool.not_true, Bool.not_false, Bool.and_true, Bool.and_false, Bool.true_and, Bool.false_and, gI_sI, gI_sL, gI_sA, gI_sM, gL_sI, gL_sL, gL_sA, gL_sM, aI_sI, aI_sL, aI_sA, aI_sM, aL_sI, aL_sL, aL_sA, aL_sM, oi_0, oi_1]; try dsimp only
          refine ⟨trivial, fun w2 τ2 hq2 => ?_⟩
          obtain ⟨hA2, b2, rfl, hb2⟩ := hq2 trivial
          have hz2 := hA2 hz
          dsimp only [Option.toList, List.cons_append, List.nil_append, Nat.beq, gI_sI, gI_sL, gI_sA, gI_sM, gL_sI, gL_sL, gL_sA, gL_sM, aI_sI, aI_sL, aI_sA, aI_sM, aL_sI, aL_sL, aL_sA, aL_sM]
          refine ⟨trivial, fun w3 τ3 hq3 => ?_⟩
          obtain ⟨rfl, u3, hu3, rfl⟩ := hq3 trivial
          dsimp only [Option.toList, List.cons_append, List.nil_append, Nat.beq, gI_sI, gI_sL, gI_sA, gI_sM, gL_sI, gL_sL, gL_sA, gL_sM, aI_sI, aI_sL, aI_sA, aI_sM, aL_sI, aL_sL, aL_sA, aL_sM]
          unfold Qv_judgeStepB
          try dsimp only
          exact ⟨rfl, ok, F, hs1, Or.inl ⟨hs2, hz2⟩⟩
        · intro x1 x2 x3 Y hz
          refine hB _ _ _ _ _ (fun m1 hm1 => ?_)
          dsimp only [ugo, uwp, ust, uct, rfd, BjudgeStep, BjudgeStep_253, Nat.beq, lv_args, rlk, rs1, rs2, rdl, rky, rcd, rno, rsw, Value.category, List.filter, List.take, List.drop, List.reverse, List.reverseAux, List.cons_append, List.nil_append, Option.toList, Int.toNat, Int.reduceToNat, if_pos, if_neg, reduceIte, ↓reduceIte, Nat.reduceAdd, Nat.reduceEqDiff, Nat.reduceBEq, beq_self_eq_true, Bool.not_true, Bool.not_false, Bool.and_true, Bool.and_false, Bool.true_and, Bool.false_and, gI_sI, gI_sL, gI_sA, gI_sM, gL_sI, gL_sL, gL_sA, gL_sM, aI_sI, aI_sL, aI_sA, aI_sM, aL_sI, aL_sL, aL_sA, aL_sM, oi_1]; try dsimp only
          intro p2
          intro p3
          intro p4
          refine ⟨fun h5 => ?_, fun h5 => ?_⟩
          · exact hW _ 277 [(0, .ref 1000), (1, .int x1), (2, .int x2), (3, .int x3)] _ _ _ (by simp [rdl, rky, Value.category]) ((ih m1 hm1).2.2.2.2.2.2.2.2.2.2.1 x1 x2 x3 _ hz)
          · exact hW _ 276 [(0, .ref 1000), (1, .int x1), (2, .int x2), (3, .int x3)] _ _ _ (by simp [rdl, rky, Value.category]) ((ih m1 hm1).2.2.2.2.2.2.2.2.2.1 x1 x2 x3 _ hz)
        · intro x1 x2 x3 Y hz
          refine hB _ _ _ _ _ (fun m1 hm1 => ?_)
          dsimp only [ugo, uwp, ust, uct, rfd, BjudgeStep, BjudgeStep_276, Nat.beq, lv_args, rlk, rs1, rs2, rdl, rky, rcd, rno, rsw, Value.category, List.filter, List.take, List.drop, List.reverse, List.reverseAux, List.cons_append, List.nil_append, Option.toList, Int.toNat, Int.reduceToNat, if_pos, if_neg, reduceIte, ↓reduceIte, Nat.reduceAdd, Nat.reduceEqDiff, Nat.reduceBEq, beq_self_eq_true, Bool.not_true, Bool.not_false, Bool.and_true, Bool.and_false, Bool.true_and, Bool.false_and, gI_sI, gI_sL, gI_sA, gI_sM, gL_sI, gL_sL, gL_sA, gL_sM, aI_sI, aI_sL, aI_sA, aI_sM, aL_sI, aL_sL, aL_sA, aL_sM]; try dsimp only
          unfold Qv_judgeStepB
          try dsimp only
          exact ⟨rfl, ok, F, hs1, Or.inl ⟨hs2, hz⟩⟩
        · intro x1 x2 x3 Y hz
          refine hB _ _ _ _ _ (fun m1 hm1 => ?_)
          dsimp only [ugo, uwp, ust, uct, rfd, BjudgeStep, BjudgeStep_277, Nat.beq, lv_args, rlk, rs1, rs2, rdl, rky, rcd, rno, rsw, Value.category, List.filter, List.take, List.drop, List.reverse, List.reverseAux, List.cons_append, List.nil_append, Option.toList, Int.toNat, Int.reduceToNat, if_pos, if_neg, reduceIte, ↓reduceIte, Nat.reduceAdd, Nat.reduceEqDiff, Nat.reduceBEq, beq_self_eq_true, Bool.not_true, Bool.not_false, Bool.and_true, Bool.and_false, Bool.true_and, Bool.false_and, gI_sI, gI_sL, gI_sA, gI_sM, gL_sI, gL_sL, gL_sA, gL_sM, aI_sI, aI_sL, aI_sA, aI_sM, aL_sI, aL_sL, aL_sA, aL_sM, oi_0, oi_1]; try dsimp only
          refine ⟨trivial, fun w2 τ2 hq2 => ?_⟩
          obtain ⟨hA2, b2, rfl, hb2⟩ := hq2 trivial
          have hz2 := hA2 hz
          dsimp only [Option.toList, List.cons_append, List.nil_append, Nat.beq, gI_sI, gI_sL, gI_sA, gI_sM, gL_sI, gL_sL, gL_sA, gL_sM, aI_sI, aI_sL, aI_sA, aI_sM, aL_sI, aL_sL, aL_sA, aL_sM]
          refine ⟨trivial, fun w3 τ3 hq3 => ?_⟩
          obtain ⟨rfl, u3, hu3, rfl⟩ := hq3 trivial
          dsimp only [Option.toList, List.cons_append, List.nil_append, Nat.beq, gI_sI, gI_sL, gI_sA, gI_sM, gL_sI, gL_sL, gL_sA, gL_sM, aI_sI, aI_sL, aI_sA, aI_sM, aL_sI, aL_sL, aL_sA, aL_sM]
          unfold Qv_judgeStepB
          try dsimp only
          exact ⟨rfl, ok, F, hs1, Or.inl ⟨hs2, hz2⟩⟩
        · intro x1 x2 x3 Y hz
          refine hB _ _ _ _ _ (fun m1 hm1 => ?_)
          dsimp only [ugo, uwp, ust, uct, rfd, BjudgeStep, BjudgeStep_304, Nat.beq, lv_args, rlk, rs1, rs2, rdl, rky, rcd, rno, rsw, Value.category, List.filter, List.take, List.drop, List.reverse, List.reverseAux, List.cons_append, List.nil_append, Option.toList, Int.toNat, Int.reduceToNat, if_pos, if_neg, reduceIte, ↓reduceIte, Nat.reduceAdd, Nat.reduceEqDiff, Nat.reduceBEq, beq_self_eq_true, Bool.not_true, Bool.not_false, Bool.and_true, Bool.and_false, Bool.true_and, Bool.false_and, gI_sI, gI_sL, gI_sA, gI_sM, gL_sI, gL_sL, gL_sA, gL_sM, aI_sI, aI_sL, aI_sA, aI_sM, aL_sI, aL_sL, aL_sA, aL_sM, oi_1]; try dsimp only
          intro p2
          intro p3
          refine ⟨trivial, fun w4 τ4 hq4 => ?_⟩
          obtain ⟨rfl, b4, rfl, hb4⟩ := hq4 trivial
          dsimp only [Option.toList, List.cons_append, List.nil_append, Nat.beq, gI_sI, gI_sL, gI_sA, gI_sM, gL_sI, gL_sL, gL_sA, gL_sM, aI_sI, aI_sL, aI_sA, aI_sM, aL_sI, aL_sL, aL_sA, aL_sM]
          refine ⟨fun h5 => ?_, fun h5 => ?_⟩
          · exact hW _ 388 [(0, .ref 1000), (1, .int x1), (2, .int x2), (3, .int x3)] _ _ _ (by simp [rdl, rky, Value.category]) ((ih m1 hm1).2.2.2.2.2.2.2.2.2.2.2.2.2.2.2.1 x1 x2 x3 _ hz)
          · exact hW _ 340 [(0, .ref 1000), (1, .int x1), (2, .int x2), (3, .int x3)] _ _ _ (by simp [rdl, rky, Value.category]) ((ih m1 hm1).2.2.2.2.2.2.2.2.2.2.2.2.1 x1 x2 x3 _ hz)
        · intro x1 x2 x3 Y hz
          refine hB _ _ _ _ _ (fun m1 hm1 => ?_)
          dsimp only [ugo, uwp, ust, uct, rfd, BjudgeStep, BjudgeStep_340, Nat.beq, lv_args, rlk, rs1, rs2, rdl, rky, rcd, rno, rsw, Value.category, List.filter, List.take, List.drop, List.reverse, List.reverseAux, List.cons_append, List.nil_append, Option.toList, Int.toNat, Int.reduceToNat, if_pos, if_neg, reduceIte, ↓reduceIte, Nat.reduceAdd, Nat.reduceEqDiff, Nat.reduceBEq, beq_self_eq_true, Bool.not_true, Bool.not_false, Bool.and_true, Bool.and_false, Bool.true_and, Bool.false_and, gI_sI, gI_sL, gI_sA, gI_sM, gL_sI, gL_sL, gL_sA, gL_sM, aI_sI, aI_sL, aI_sA, aI_sM, aL_sI, aL_sL, aL_sA, aL_sM, oi_1]; try dsimp only
          intro p2
          refine ⟨fun h3 => ?_, fun h3 => ?_⟩
          · exact hW _ 366 [(0, .ref 1000), (1, .int x1), (2, .int x2), (3, .int x3)] _ _ _ (by simp [rdl, rky, Value.category]) ((ih m1 hm1).2.2.2.2.2.2.2.2.2.2.2.2.2.2.1 x1 x2 x3 _ hz)
          · exact hW _ 353 [(0, .ref 1000), (1, .int x1), (2, .int x2), (3, .int x3)] _ _ _ (by simp [rdl, rky, Value.category]) ((ih m1 hm1).2.2.2.2.2.2.2.2.2.2.2.2.2.1 x1 x2 x3 _ hz)
        · intro x1 x2 x3 Y hz
          refine hB _ _ _ _ _ (fun m1 hm1 => ?_)
          dsimp only [ugo, uwp, ust, uct, rfd, BjudgeStep, BjudgeStep_353, Nat.beq, lv_args, rlk, rs1, rs2, rdl, rky, rcd, rno, rsw, Value.category, List.filter, List.take, List.drop, List.reverse, List.reverseAux, List.cons_append, List.nil_append, Option.toList, Int.toNat, Int.reduceToNat, if_pos, if_neg, reduceIte, ↓reduceIte, Nat.reduceAdd, Nat.reduceEqDiff, Nat.reduceBEq, beq_self_eq_true, Bool.not_true, Bool.not_false, Bool.and_true, Bool.and_false, Bool.true_and, Bool.false_and, gI_sI, gI_sL, gI_sA, gI_sM, gL_sI, gL_sL, gL_sA, gL_sM, aI_sI, aI_sL, aI_sA, aI_sM, aL_sI, aL_sL, aL_sA, aL_sM, oi_3]; try dsimp only
          intro p2
          refine ⟨fun h3 => ?_, fun h3 => ?_⟩
          · exact hW _ 388 [(0, .ref 1000), (1, .int x1), (2, .int x2), (3, .int x3)] _ _ _ (by simp [rdl, rky, Value.category]) ((ih m1 hm1).2.2.2.2.2.2.2.2.2.2.2.2.2.2.2.1 x1 x2 x3 _ hz)
          · exact hW _ 366 [(0, .ref 1000), (1, .int x1), (2, .int x2), (3, .int x3)] _ _ _ (by simp [rdl, rky, Value.category]) ((ih m1 hm1).2.2.2.2.2.2.2.2.2.2.2.2.2.2.1 x1 x2 x3 _ hz)
        · intro x1 x2 x3 Y hz
          refine hB _ _ _ _ _ (fun m1 hm1 => ?_)
          dsimp only [ugo, uwp, ust, uct, rfd, BjudgeStep, BjudgeStep_366, Nat.beq, lv_args, rlk, rs1, rs2, rdl, rky, rcd, rno, rsw, Value.category, List.filter, List.take, List.drop, List.reverse, List.reverseAux, List.cons_append, List.nil_append, Option.toList, Int.toNat, Int.reduceToNat, if_pos, if_neg, reduceIte, ↓reduceIte, Nat.reduceAdd, Nat.reduceEqDiff, Nat.reduceBEq, beq_self_eq_true, Bool.not_true, Bool.not_false, Bool.and_true, Bool.and_false, Bool.true_and, Bool.false_and, gI_sI, gI_sL, gI_sA, gI_sM, gL_sI, gL_sL, gL_sA, gL_sM, aI_sI, aI_sL, aI_sA, aI_sM, aL_sI, aL_sL, aL_sA, aL_sM, oi_5, oi_m2]; try dsimp only
          intro p2
          refine ⟨trivial, fun w3 τ3 hq3 => ?_⟩
          obtain ⟨rfl, hz3⟩ := hq3 (show ¬ (5 : Int32) = 0 by decide)
          dsimp only [Option.toList, List.cons_append, List.nil_append, Nat.beq, gI_sI, gI_sL, gI_sA, gI_sM, gL_sI, gL_sL, gL_sA, gL_sM, aI_sI, aI_sL, aI_sA, aI_sM, aL_sI, aL_sL, aL_sA, aL_sM]
          intro p4
          exact hW _ 388 [(0, .ref 1000), (1, .int x1), (2, .int x2), (3, .int x3)] _ _ _ (by simp [rdl, rky, Value.category]) ((ih m1 hm1).2.2.2.2.2.2.2.2.2.2.2.2.2.2.2.1 x1 x2 x3 _ hz3)
        · intro x1 x2 x3 Y hz
          refine hB _ _ _ _ _ (fun m1 hm1 => ?_)
          dsimp only [ugo, uwp, ust, uct, rfd, BjudgeStep, BjudgeStep_388, Nat.beq, lv_args, rlk, rs1, rs2, rdl, rky, rcd, rno, rsw, Value.category, List.filter, List.take, List.drop, List.reverse, List.reverseAux, List.cons_append, List.nil_append, Option.toList, Int.toNat, Int.reduceToNat, if_pos, if_neg, reduceIte, ↓reduceIte, Nat.reduceAdd, Nat.reduceEqDiff, Nat.reduceBEq, beq_self_eq_true, Bool.not_true, Bool.not_false, Bool.and_true, Bool.and_false, Bool.true_and, Bool.false_and, gI_sI, gI_sL, gI_sA, gI_sM, gL_sI, gL_sL, gL_sA, gL_sM, aI_sI, aI_sL, aI_sA, aI_sM, aL_sI, aL_sL, aL_sA, aL_sM]; try dsimp only
          unfold Qv_judgeStepB
          try dsimp only
          exact ⟨rfl, ok, F, hs1, Or.inl ⟨hs2, hz⟩⟩
        · intro x1 x2 x3 Y hz
          refine hB _ _ _ _ _ (fun m1 hm1 => ?_)
          dsimp only [ugo, uwp, ust, uct, rfd, BjudgeStep, BjudgeStep_389, Nat.beq, lv_args, rlk, rs1, rs2, rdl, rky, rcd, rno, rsw, Value.category, List.filter, List.take, List.drop, List.reverse, List.reverseAux, List.cons_append, List.nil_append, Option.toList, Int.toNat, Int.reduceToNat, if_pos, if_neg, reduceIte, ↓reduceIte, Nat.reduceAdd, Nat.reduceEqDiff, Nat.reduceBEq, beq_self_eq_true, Bool.not_true, Bool.not_false, Bool.and_true, Bool.and_false, Bool.true_and, Bool.false_and, gI_sI, gI_sL, gI_sA, gI_sM, gL_sI, gL_sL, gL_sA, gL_sM, aI_sI, aI_sL, aI_sA, aI_sM, aL_sI, aL_sL, aL_sA, aL_sM]; try dsimp only
          refine ⟨trivial, fun w2 τ2 hq2 => ?_⟩
          obtain ⟨rfl, hz2⟩ := hq2.1 hz
          dsimp only [Option.toList, List.cons_append, List.nil_append, Nat.beq, gI_sI, gI_sL, gI_sA, gI_sM, gL_sI, gL_sL, gL_sA, gL_sM, aI_sI, aI_sL, aI_sA, aI_sM, aL_sI, aL_sL, aL_sA, aL_sM]
          unfold Qv_judgeStepB
          try dsimp only
          exact ⟨rfl, ok, F, hs1, Or.inl ⟨hs2, hz2⟩⟩
        · intro x1 x2 x3 Y hz
          refine hB _ _ _ _ _ (fun m1 hm1 => ?_)
          dsimp only [ugo, uwp, ust, uct, rfd, BjudgeStep, BjudgeStep_396, Nat.beq, lv_args, rlk, rs1, rs2, rdl, rky, rcd, rno, rsw, Value.category, List.filter, List.take, List.drop, List.reverse, List.reverseAux, List.cons_append, List.nil_append, Option.toList, Int.toNat, Int.reduceToNat, if_pos, if_neg, reduceIte, ↓reduceIte, Nat.reduceAdd, Nat.reduceEqDiff, Nat.reduceBEq, beq_self_eq_true, Bool.not_true, Bool.not_false, Bool.and_true, Bool.and_false, Bool.true_and, Bool.false_and, gI_sI, gI_sL, gI_sA, gI_sM, gL_sI, gL_sL, gL_sA, gL_sM, aI_sI, aI_sL, aI_sA, aI_sM, aL_sI, aL_sL, aL_sA, aL_sM]; try dsimp only
          intro p2
          refine ⟨fun h3 => ?_, fun h3 => ?_⟩
          · exact hW _ 415 [(0, .ref 1000), (1, .int x1), (2, .int x2), (3, .int x3)] _ _ _ (by simp [rdl, rky, Value.category]) ((ih m1 hm1).2.2.2.2.2.2.2.2.2.2.2.2.2.2.2.2.2.2.2.1 x1 x2 x3 _ hz)
          · exact hW _ 405 [(0, .ref 1000), (1, .int x1), (2, .int x2), (3, .int x3)] _ _ _ (by simp [rdl, rky, Value.category]) ((ih m1 hm1).2.2.2.2.2.2.2.2.2.2.2.2.2.2.2.2.2.2.1 x1 x2 x3 _ hz)
        · intro x1 x2 x3 Y hz
          refine hB _ _ _ _ _ (fun m1 hm1 => ?_)
          dsimp only [ugo, uwp, ust, uct, rfd, BjudgeStep, BjudgeStep_405, Nat.beq, lv_args, rlk, rs1, rs2, rdl, rky, rcd, rno, rsw, Value.category, List.filter, List.take, List.drop, List.reverse, List.reverseAux, List.cons_append, List.nil_append, Option.toList, Int.toNat, Int.reduceToNat, if_pos, if_neg, reduceIte, ↓reduceIte, Nat.reduceAdd, Nat.reduceEqDiff, Nat.reduceBEq, beq_self_eq_true, Bool.not_true, Bool.not_false, Bool.and_true, Bool.and_false, Bool.true_and, Bool.false_and, gI_sI, gI_sL, gI_sA, gI_sM, gL_sI, gL_sL, gL_sA, gL_sM, aI_sI, aI_sL, aI_sA, aI_sM, aL_sI, aL_sL, aL_sA, aL_sM, oi_8]; try dsimp only
          refine ⟨trivial, fun w2 τ2 hq2 => ?_⟩
          obtain ⟨rfl, hz2⟩ := hq2 (show ¬ (8 : Int32) = 0 by decide)
          dsimp only [Option.toList, List.cons_append, List.nil_append, Nat.beq, gI_sI, gI_sL, gI_sA, gI_sM, gL_sI, gL_sL, gL_sA, gL_sM, aI_sI, aI_sL, aI_sA, aI_sM, aL_sI, aL_sL, aL_sA, aL_sM]
          exact hW _ 422 [(0, .ref 1000), (1, .int x1), (2, .int x2), (3, .int x3)] _ _ _ (by simp [rdl, rky, Value.category]) ((ih m1 hm1).2.2.2.2.2.2.2.2.2.2.2.2.2.2.2.2.2.2.2.2.1 x1 x2 x3 _ hz2)
        · intro x1 x2 x3 Y hz
          refine hB _ _ _ _ _ (fun m1 hm1 => ?_)
          dsimp only [ugo, uwp, ust, uct, rfd, BjudgeStep, BjudgeStep_415, Nat.beq, lv_args, rlk, rs1, rs2, rdl, rky, rcd, rno, rsw, Value.category, List.filter, List.take, List.drop, List.reverse, List.reverseAux, List.cons_append, List.nil_append, Option.toList, Int.toNat, Int.reduceToNat, if_pos, if_neg, reduceIte, ↓reduceIte, Nat.reduceAdd, Nat.reduceEqDiff, Nat.reduceBEq, beq_self_eq_true, Bool.not_true, Bool.not_false, Bool.and_true, Bool.and_false, Bool.true_and, Bool.false_and, gI_sI, gI_sL, gI_sA, gI_sM, gL_sI, gL_sL, gL_sA, gL_sM, aI_sI, aI_sL, aI_sA, aI_sM, aL_sI, aL_sL, aL_sA, aL_sM]; try dsimp only
          intro p2
          exact hW _ 422 [(0, .ref 1000), (1, .int x1), (2, .int x2), (3, .int x3)] _ _ _ (by simp [rdl, rky, Value.category]) ((ih m1 hm1).2.2.2.2.2.2.2.2.2.2.2.2.2.2.2.2.2.2.2.2.1 x1 x2 x3 _ hz)
        · intro x1 x2 x3 Y hz
          refine hB _ _ _ _ _ (fun m1 hm1 => ?_)
          dsimp only [ugo, uwp, ust, uct, rfd, BjudgeStep, BjudgeStep_422, Nat.beq, lv_args, rlk, rs1, rs2, rdl, rky, rcd, rno, rsw, Value.category, List.filter, List.take, List.drop, List.reverse, List.reverseAux, List.cons_append, List.nil_append, Option.toList, Int.toNat, Int.reduceToNat, if_pos, if_neg, reduceIte, ↓reduceIte, Nat.reduceAdd, Nat.reduceEqDiff, Nat.reduceBEq, beq_self_eq_true, Bool.not_true, Bool.not_false, Bool.and_true, Bool.and_false, Bool.true_and, Bool.false_and, gI_sI, gI_sL, gI_sA, gI_sM, gL_sI, gL_sL, gL_sA, gL_sM, aI_sI, aI_sL, aI_sA, aI_sM, aL_sI, aL_sL, aL_sA, aL_sM]; try dsimp only
          unfold Qv_judgeStepB
          try dsimp only
          exact ⟨rfl, ok, F, hs1, Or.inl ⟨hs2, hz⟩⟩
        · intro x1 x2 x3 Y hz
          refine hB _ _ _ _ _ (fun m1 hm1 => ?_)
          dsimp only [ugo, uwp, ust, uct, rfd, BjudgeStep, BjudgeStep_423, Nat.beq, lv_args, rlk, rs1, rs2, rdl, rky, rcd, rno, rsw, Value.category, List.filter, List.take, List.drop, List.reverse, List.reverseAux, List.cons_append, List.nil_append, Option.toList, Int.toNat, Int.reduceToNat, if_pos, if_neg, reduceIte, ↓reduceIte, Nat.reduceAdd, Nat.reduceEqDiff, Nat.reduceBEq, beq_self_eq_true, Bool.not_true, Bool.not_false, Bool.and_true, Bool.and_false, Bool.true_and, Bool.false_and, gI_sI, gI_sL, gI_sA, gI_sM, gL_sI, gL_sL, gL_sA, gL_sM, aI_sI, aI_sL, aI_sA, aI_sM, aL_sI, aL_sL, aL_sA, aL_sM, oi_0, oi_200]; try dsimp only
          intro p2
          exact hW _ 435 [(0, .ref 1000), (1, .int x1), (2, .int x2), (3, .int x3), (6, .int 0)] _ _ _ (by simp [rdl, rky, Value.category]) ((ih m1 hm1).2.2.2.2.2.2.2.2.2.2.2.2.2.2.2.2.2.2.2.2.2.2.1 x1 x2 x3 0 _ hz)
        · intro x1 x2 x3 x6 Y hz
          refine hB _ _ _ _ _ (fun m1 hm1 => ?_)
          dsimp only [ugo, uwp, ust, uct, rfd, BjudgeStep, BjudgeStep_435, Nat.beq, lv_args, rlk, rs1, rs2, rdl, rky, rcd, rno, rsw, Value.category, List.filter, List.take, List.drop, List.reverse, List.reverseAux, List.cons_append, List.nil_append, Option.toList, Int.toNat, Int.reduceToNat, if_pos, if_neg, reduceIte, ↓reduceIte, Nat.reduceAdd, Nat.reduceEqDiff, Nat.reduceBEq, beq_self_eq_true, Bool.not_true, Bool.not_false, Bool.and_true, Bool.and_false, Bool.true_and, Bool.false_and, gI_sI, gI_sL, gI_sA, gI_sM, gL_sI, gL_sL, gL_sA, gL_sM, aI_sI, aI_sL, aI_sA, aI_sM, aL_sI, aL_sL, aL_sA, aL_sM]; try dsimp only
          refine ⟨fun h2 => ?_, fun h2 => ?_⟩
          · exact hW _ 477 [(0, .ref 1000), (1, .int x1), (2, .int x2), (3, .int x3), (6, .int x6)] _ _ _ (by simp [rdl, rky, Value.category]) ((ih m1 hm1).2.2.2.2.2.2.2.2.2.2.2.2.2.2.2.2.2.2.2.2.2.2.2.2.2.2.1 x1 x2 x3 x6 _ hz)
          · exact hW _ 444 [(0, .ref 1000), (1, .int x1), (2, .int x2), (3, .int x3), (6, .int x6)] _ _ _ (by simp [rdl, rky, Value.category]) ((ih m1 hm1).2.2.2.2.2.2.2.2.2.2.2.2.2.2.2.2.2.2.2.2.2.2.2.1 x1 x2 x3 x6 _ hz)
        · intro x1 x2 x3 x6 Y hz
          refine hB _ _ _ _ _ (fun m1 hm1 => ?_)
          dsimp only [ugo, uwp, ust, uct, rfd, BjudgeStep, BjudgeStep_444, Nat.beq, lv_args, rlk, rs1, rs2, rdl, rky, rcd, rno, rsw, Value.category, List.filter, List.take, List.drop, List.reverse, List.reverseAux, List.cons_append, List.nil_append, Option.toList, Int.toNat, Int.reduceToNat, if_pos, if_neg, reduceIte, ↓reduceIte, Nat.reduceAdd, Nat.reduceEqDiff, Nat.reduceBEq, beq_self_eq_true, Bool.not_true, Bool.not_false, Bool.and_true, Bool.and_false, Bool.true_and, Bool.false_and, gI_sI, gI_sL, gI_sA, gI_sM, gL_sI, gL_sL, gL_sA, gL_sM, aI_sI, aI_sL, aI_sA, aI_sM, aL_sI, aL_sL, aL_sA, aL_sM]; try dsimp only
          intro p2
          intro p3
          refine ⟨trivial, fun w4 τ4 hq4 => ?_⟩
          obtain ⟨rfl, hb4⟩ := hq4 trivial
          rcases hb4 with ⟨rfl, hs4⟩ | ⟨rfl, hs4⟩
          · dsimp only [Option.toList, List.cons_append, List.nil_append, Nat.beq, gI_sI, gI_sL, gI_sA, gI_sM, gL_sI, gL_sL, gL_sA, gL_sM, aI_sI, aI_sL, aI_sA, aI_sM, aL_sI, aL_sL, aL_sA, aL_sM]
            have hs4 : sameR Y (((aI Y 60) (((aI Y 90) (x6).toNatClampNeg)).toNatClampNeg)).toNatClampNeg (x3).toNatClampNeg := hs4
            refine ⟨fun h5 => absurd h5 (by decide), fun h5 => ?_⟩
            clear h5
            exact hW _ 464 [(0, .ref 1000), (1, .int x1), (2, .int x2), (3, .int x3), (6, .int x6)] _ _ _ (by simp [rdl, rky, Value.category]) ((ih m1 hm1).2.2.2.2.2.2.2.2.2.2.2.2.2.2.2.2.2.2.2.2.2.2.2.2.1 x1 x2 x3 x6 _ hz)
          · dsimp only [Option.toList, List.cons_append, List.nil_append, Nat.beq, gI_sI, gI_sL, gI_sA, gI_sM, gL_sI, gL_sL, gL_sA, gL_sM, aI_sI, aI_sL, aI_sA, aI_sM, aL_sI, aL_sL, aL_sA, aL_sM]
            have hs4 : ¬ sameR Y (((aI Y 60) (((aI Y 90) (x6).toNatClampNeg)).toNatClampNeg)).toNatClampNeg (x3).toNatClampNeg := hs4
            refine ⟨fun h6 => ?_, fun h6 => absurd h6 (by decide)⟩
            clear h6
            exact hW _ 471 [(0, .ref 1000), (1, .int x1), (2, .int x2), (3, .int x3), (6, .int x6)] _ _ _ (by simp [rdl, rky, Value.category]) ((ih m1 hm1).2.2.2.2.2.2.2.2.2.2.2.2.2.2.2.2.2.2.2.2.2.2.2.2.2.1 x1 x2 x3 x6 _ hz)
        · intro x1 x2 x3 x6 Y hz
          refine hB _ _ _ _ _ (fun m1 hm1 => ?_)
          dsimp only [ugo, uwp, ust, uct, rfd, BjudgeStep, BjudgeStep_464, Nat.beq, lv_args, rlk, rs1, rs2, rdl, rky, rcd, rno, rsw, Value.category, List.filter, List.take, List.drop, List.reverse, List.reverseAux, List.cons_append, List.nil_append, Option.toList, Int.toNat, Int.reduceToNat, if_pos, if_neg, reduceIte, ↓reduceIte, Nat.reduceAdd, Nat.reduceEqDiff, Nat.reduceBEq, beq_self_eq_true, Bool.not_true, Bool.not_false, Bool.and_true, Bool.and_false, Bool.true_and, Bool.false_and, gI_sI, gI_sL, gI_sA, gI_sM, gL_sI, gL_sL, gL_sA, gL_sM, aI_sI, aI_sL, aI_sA, aI_sM, aL_sI, aL_sL, aL_sA, aL_sM, oi_10]; try dsimp only
          refine ⟨trivial, fun w2 τ2 hq2 => ?_⟩
          obtain ⟨rfl, hz2⟩ := hq2 (show ¬ (10 : Int32) = 0 by decide)
          dsimp only [Option.toList, List.cons_append, List.nil_append, Nat.beq, gI_sI, gI_sL, gI_sA, gI_sM, gL_sI, gL_sL, gL_sA, gL_sM, aI_sI, aI_sL, aI_sA, aI_sM, aL_sI, aL_sL, aL_sA, aL_sM]
          exact hW _ 471 [(0, .ref 1000), (1, .int x1), (2, .int x2), (3, .int x3), (6, .int x6)] _ _ _ (by simp [rdl, rky, Value.category]) ((ih m1 hm1).2.2.2.2.2.2.2.2.2.2.2.2.2.2.2.2.2.2.2.2.2.2.2.2.2.1 x1 x2 x3 x6 _ hz2)
        · intro x1 x2 x3 x6 Y hz
          refine hB _ _ _ _ _ (fun m1 hm1 => ?_)
          dsimp only [ugo, uwp, ust, uct, rfd, BjudgeStep, BjudgeStep_471, Nat.beq, lv_args, rlk, rs1, rs2, rdl, rky, rcd, rno, rsw, Value.category, List.filter, List.take, List.drop, List.reverse, List.reverseAux, List.cons_append, List.nil_append, Option.toList, Int.toNat, Int.reduceToNat, if_pos, if_neg, reduceIte, ↓reduceIte, Nat.reduceAdd, Nat.reduceEqDiff, Nat.reduceBEq, beq_self_eq_true, Bool.not_true, Bool.not_false, Bool.and_true, Bool.and_false, Bool.true_and, Bool.false_and, gI_sI, gI_sL, gI_sA, gI_sM, gL_sI, gL_sL, gL_sA, gL_sM, aI_sI, aI_sL, aI_sA, aI_sM, aL_sI, aL_sL, aL_sA, aL_sM, oi_1]; try dsimp only
          exact hW _ 435 [(0, .ref 1000), (1, .int x1), (2, .int x2), (3, .int x3), (6, .int (x6 + 1))] _ _ _ (by simp [rdl, rky, Value.category]) ((ih m1 hm1).2.2.2.2.2.2.2.2.2.2.2.2.2.2.2.2.2.2.2.2.2.2.1 x1 x2 x3 (x6 + 1) _ hz)
        · intro x1 x2 x3 x6 Y hz
          refine hB _ _ _ _ _ (fun m1 hm1 => ?_)
          dsimp only [ugo, uwp, ust, uct, rfd, BjudgeStep, BjudgeStep_477, Nat.beq, lv_args, rlk, rs1, rs2, rdl, rky, rcd, rno, rsw, Value.category, List.filter, List.take, List.drop, List.reverse, List.reverseAux, List.cons_append, List.nil_append, Option.toList, Int.toNat, Int.reduceToNat, if_pos, if_neg, reduceIte, ↓reduceIte, Nat.reduceAdd, Nat.reduceEqDiff, Nat.reduceBEq, beq_self_eq_true, Bool.not_true, Bool.not_false, Bool.and_true, Bool.and_false, Bool.true_and, Bool.false_and, gI_sI, gI_sL, gI_sA, gI_sM, gL_sI, gL_sL, gL_sA, gL_sM, aI_sI, aI_sL, aI_sA, aI_sM, aL_sI, aL_sL, aL_sA, aL_sM, oi_1]; try dsimp only
          intro p2
          unfold Qv_judgeStepB
          try dsimp only
          exact ⟨rfl, ok, F, hs1, Or.inl ⟨hs2, hz⟩⟩
        · intro x1 x2 x3 Y hz
          refine hB _ _ _ _ _ (fun m1 hm1 => ?_)
          dsimp only [ugo, uwp, ust, uct, rfd, BjudgeStep, BjudgeStep_498, Nat.beq, lv_args, rlk, rs1, rs2, rdl, rky, rcd, rno, rsw, Value.category, List.filter, List.take, List.drop, List.reverse, List.reverseAux, List.cons_append, List.nil_append, Option.toList, Int.toNat, Int.reduceToNat, if_pos, if_neg, reduceIte, ↓reduceIte, Nat.reduceAdd, Nat.reduceEqDiff, Nat.reduceBEq, beq_self_eq_true, Bool.not_true, Bool.not_false, Bool.and_true, Bool.and_false, Bool.true_and, Bool.false_and, gI_sI, gI_sL, gI_sA, gI_sM, gL_sI, gL_sL, gL_sA, gL_sM, aI_sI, aI_sL, aI_sA, aI_sM, aL_sI, aL_sL, aL_sA, aL_sM, oi_1]; try dsimp only
          unfold Qv_judgeStepB
          try dsimp only
          exact ⟨rfl, ok, F, hs1, Or.inl ⟨hs2, hz⟩⟩
        · intro x1 x2 x3 Y hz
          refine hB _ _ _ _ _ (fun m1 hm1 => ?_)
          dsimp only [ugo, uwp, ust, uct, rfd, BjudgeStep, BjudgeStep_509, Nat.beq, lv_args, rlk, rs1, rs2, rdl, rky, rcd, rno, rsw, Value.category, List.filter, List.take, List.drop, List.reverse, List.reverseAux, List.cons_append, List.nil_append, Option.toList, Int.toNat, Int.reduceToNat, if_pos, if_neg, reduceIte, ↓reduceIte, Nat.reduceAdd, Nat.reduceEqDiff, Nat.reduceBEq, beq_self_eq_true, Bool.not_true, Bool.not_false, Bool.and_true, Bool.and_false, Bool.true_and, Bool.false_and, gI_sI, gI_sL, gI_sA, gI_sM, gL_sI, gL_sL, gL_sA, gL_sM, aI_sI, aI_sL, aI_sA, aI_sM, aL_sI, aL_sL, aL_sA, aL_sM, oi_1]; try dsimp only
          intro p2
          refine ⟨fun h3 => ?_, fun h3 => ?_⟩
          · exact hW _ 528 [(0, .ref 1000), (1, .int x1), (2, .int x2), (3, .int x3)] _ _ _ (by simp [rdl, rky, Value.category]) ((ih m1 hm1).2.2.2.2.2.2.2.2.2.2.2.2.2.2.2.2.2.2.2.2.2.2.2.2.2.2.2.2.2.2.1 x1 x2 x3 _ hz)
          · exact hW _ 519 [(0, .ref 1000), (1, .int x1), (2, .int x2), (3, .int x3)] _ _ _ (by simp [rdl, rky, Value.category]) ((ih m1 hm1).2.2.2.2.2.2.2.2.2.2.2.2.2.2.2.2.2.2.2.2.2.2.2.2.2.2.2.2.2.1 x1 x2 x3 _ hz)
        · intro x1 x2 x3 Y hz
          refine hB _ _ _ _ _ (fun m1 hm1 => ?_)
          dsimp only [ugo, uwp, ust, uct, rfd, BjudgeStep, BjudgeStep_519, Nat.beq, lv_args, rlk, rs1, rs2, rdl, rky, rcd, rno, rsw, Value.category, List.filter, List.take, List.drop, List.reverse, List.reverseAux, List.cons_append, List.nil_append, Option.toList, Int.toNat, Int.reduceToNat, if_pos, if_neg, reduceIte, ↓reduceIte, Nat.reduceAdd, Nat.reduceEqDiff, Nat.reduceBEq, beq_self_eq_true, Bool.not_true, Bool.not_false, Bool.and_true, Bool.and_false, Bool.true_and, Bool.false_and, gI_sI, gI_sL, gI_sA, gI_sM, gL_sI, gL_sL, gL_sA, gL_sM, aI_sI, aI_sL, aI_sA, aI_sM, aL_sI, aL_sL, aL_sA, aL_sM, oi_200]; try dsimp only
          intro p2
          exact hW _ 528 [(0, .ref 1000), (1, .int x1), (2, .int x2), (3, .int x3)] _ _ _ (by simp [rdl, rky, Value.category]) ((ih m1 hm1).2.2.2.2.2.2.2.2.2.2.2.2.2.2.2.2.2.2.2.2.2.2.2.2.2.2.2.2.2.2.1 x1 x2 x3 _ hz)
        · intro x1 x2 x3 Y hz
          refine hB _ _ _ _ _ (fun m1 hm1 => ?_)
          dsimp only [ugo, uwp, ust, uct, rfd, BjudgeStep, BjudgeStep_528, Nat.beq, lv_args, rlk, rs1, rs2, rdl, rky, rcd, rno, rsw, Value.category, List.filter, List.take, List.drop, List.reverse, List.reverseAux, List.cons_append, List.nil_append, Option.toList, Int.toNat, Int.reduceToNat, if_pos, if_neg, reduceIte, ↓reduceIte, Nat.reduceAdd, Nat.reduceEqDiff, Nat.reduceBEq, beq_self_eq_true, Bool.not_true, Bool.not_false, Bool.and_true, Bool.and_false, Bool.true_and, Bool.false_and, gI_sI, gI_sL, gI_sA, gI_sM, gL_sI, gL_sL, gL_sA, gL_sM, aI_sI, aI_sL, aI_sA, aI_sM, aL_sI, aL_sL, aL_sA, aL_sM]; try dsimp only
          refine ⟨fun h2 => ?_, fun h2 => ?_⟩
          · exact hW _ 539 [(0, .ref 1000), (1, .int x1), (2, .int x2), (3, .int x3)] _ _ _ (by simp [rdl, rky, Value.category]) ((ih m1 hm1).2.2.2.2.2.2.2.2.2.2.2.2.2.2.2.2.2.2.2.2.2.2.2.2.2.2.2.2.2.2.2.2.1 x1 x2 x3 _ hz)
          · exact hW _ 532 [(0, .ref 1000), (1, .int x1), (2, .int x2), (3, .int x3)] _ _ _ (by simp [rdl, rky, Value.category]) ((ih m1 hm1).2.2.2.2.2.2.2.2.2.2.2.2.2.2.2.2.2.2.2.2.2.2.2.2.2.2.2.2.2.2.2.1 x1 x2 x3 _ hz)
        · intro x1 x2 x3 Y hz
          refine hB _ _ _ _ _ (fun m1 hm1 => ?_)
          dsimp only [ugo, uwp, ust, uct, rfd, BjudgeStep, BjudgeStep_532, Nat.beq, lv_args, rlk, rs1, rs2, rdl, rky, rcd, rno, rsw, Value.category, List.filter, List.take, List.drop, List.reverse, List.reverseAux, List.cons_append, List.nil_append, Option.toList, Int.toNat, Int.reduceToNat, if_pos, if_neg, reduceIte, ↓reduceIte, Nat.reduceAdd, Nat.reduceEqDiff, Nat.reduceBEq, beq_self_eq_true, Bool.not_true, Bool.not_false, Bool.and_true, Bool.and_false, Bool.true_and, Bool.false_and, gI_sI, gI_sL, gI_sA, gI_sM, gL_sI, gL_sL, gL_sA, gL_sM, aI_sI, aI_sL, aI_sA, aI_sM, aL_sI, aL_sL, aL_sA, aL_sM, oi_9]; try dsimp only
          refine ⟨trivial, fun w2 τ2 hq2 => ?_⟩
          obtain ⟨rfl, hz2⟩ := hq2 (show ¬ (9 : Int32) = 0 by decide)
          dsimp only [Option.toList, List.cons_append, List.nil_append, Nat.beq, gI_sI, gI_sL, gI_sA, gI_sM, gL_sI, gL_sL, gL_sA, gL_sM, aI_sI, aI_sL, aI_sA, aI_sM, aL_sI, aL_sL, aL_sA, aL_sM]
          exact hW _ 539 [(0, .ref 1000), (1, .int x1), (2, .int x2), (3, .int x3)] _ _ _ (by simp [rdl, rky, Value.category]) ((ih m1 hm1).2.2.2.2.2.2.2.2.2.2.2.2.2.2.2.2.2.2.2.2.2.2.2.2.2.2.2.2.2.2.2.2.1 x1 x2 x3 _ hz2)
        · intro x1 x2 x3 Y hz
          refine hB _ _ _ _ _ (fun m1 hm1 => ?_)
          dsimp only [ugo, uwp, ust, uct, rfd, BjudgeStep, BjudgeStep_539, Nat.beq, lv_args, rlk, rs1, rs2, rdl, rky, rcd, rno, rsw, Value.category, List.filter, List.take, List.drop, List.reverse, List.reverseAux, List.cons_append, List.nil_append, Option.toList, Int.toNat, Int.reduceToNat, if_pos, if_neg, reduceIte, ↓reduceIte, Nat.reduceAdd, Nat.reduceEqDiff, Nat.reduceBEq, beq_self_eq_true, Bool.not_true, Bool.not_false, Bool.and_true, Bool.and_false, Bool.true_and, Bool.false_and, gI_sI, gI_sL, gI_sA, gI_sM, gL_sI, gL_sL, gL_sA, gL_sM, aI_sI, aI_sL, aI_sA, aI_sM, aL_sI, aL_sL, aL_sA, aL_sM]; try dsimp only
          unfold Qv_judgeStepB
          try dsimp only
          exact ⟨rfl, ok, F, hs1, Or.inl ⟨hs2, hz⟩⟩
        · intro x1 x2 x3 Y hz
          refine hB _ _ _ _ _ (fun m1 hm1 => ?_)
          dsimp only [ugo, uwp, ust, uct, rfd, BjudgeStep, BjudgeStep_540, Nat.beq, lv_args, rlk, rs1, rs2, rdl, rky, rcd, rno, rsw, Value.category, List.filter, List.take, List.drop, List.reverse, List.reverseAux, List.cons_append, List.nil_append, Option.toList, Int.toNat, Int.reduceToNat, if_pos, if_neg, reduceIte, ↓reduceIte, Nat.reduceAdd, Nat.reduceEqDiff, Nat.reduceBEq, beq_self_eq_true, Bool.not_true, Bool.not_false, Bool.and_true, Bool.and_false, Bool.true_and, Bool.false_and, gI_sI, gI_sL, gI_sA, gI_sM, gL_sI, gL_sL, gL_sA, gL_sM, aI_sI, aI_sL, aI_sA, aI_sM, aL_sI, aL_sL, aL_sA, aL_sM]; try dsimp only
          refine ⟨trivial, fun w2 τ2 hq2 => ?_⟩
          obtain ⟨rfl, hz2⟩ := hq2.1 hz
          dsimp only [Option.toList, List.cons_append, List.nil_append, Nat.beq, gI_sI, gI_sL, gI_sA, gI_sM, gL_sI, gL_sL, gL_sA, gL_sM, aI_sI, aI_sL, aI_sA, aI_sM, aL_sI, aL_sL, aL_sA, aL_sM]
          unfold Qv_judgeStepB
          try dsimp only
          exact ⟨rfl, ok, F, hs1, Or.inl ⟨hs2, hz2⟩⟩
        · intro x1 x2 x3 Y hz
          refine hB _ _ _ _ _ (fun m1 hm1 => ?_)
          dsimp only [ugo, uwp, ust, uct, rfd, BjudgeStep, BjudgeStep_547, Nat.beq, lv_args, rlk, rs1, rs2, rdl, rky, rcd, rno, rsw, Value.category, List.filter, List.take, List.drop, List.reverse, List.reverseAux, List.cons_append, List.nil_append, Option.toList, Int.toNat, Int.reduceToNat, if_pos, if_neg, reduceIte, ↓reduceIte, Nat.reduceAdd, Nat.reduceEqDiff, Nat.reduceBEq, beq_self_eq_true, Bool.not_true, Bool.not_false, Bool.and_true, Bool.and_false, Bool.true_and, Bool.false_and, gI_sI, gI_sL, gI_sA, gI_sM, gL_sI, gL_sL, gL_sA, gL_sM, aI_sI, aI_sL, aI_sA, aI_sM, aL_sI, aL_sL, aL_sA, aL_sM, oi_1]; try dsimp only
          refine ⟨trivial, fun w2 τ2 hq2 => ?_⟩
          obtain ⟨rfl, b2, rfl, hb2⟩ := hq2 trivial
          dsimp only [Option.toList, List.cons_append, List.nil_append, Nat.beq, gI_sI, gI_sL, gI_sA, gI_sM, gL_sI, gL_sL, gL_sA, gL_sM, aI_sI, aI_sL, aI_sA, aI_sM, aL_sI, aL_sL, aL_sA, aL_sM]
          refine ⟨fun h3 => ?_, fun h3 => ?_⟩
          · exact hW _ 594 [(0, .ref 1000), (1, .int x1), (2, .int x2), (3, .int x3)] _ _ _ (by simp [rdl, rky, Value.category]) ((ih m1 hm1).2.2.2.2.2.2.2.2.2.2.2.2.2.2.2.2.2.2.2.2.2.2.2.2.2.2.2.2.2.2.2.2.2.2.2.2.2.1 x1 x2 x3 _ hz)
          · exact hW _ 568 [(0, .ref 1000), (1, .int x1), (2, .int x2), (3, .int x3)] _ _ _ (by simp [rdl, rky, Value.category]) ((ih m1 hm1).2.2.2.2.2.2.2.2.2.2.2.2.2.2.2.2.2.2.2.2.2.2.2.2.2.2.2.2.2.2.2.2.2.2.2.1 x1 x2 x3 _ hz)
        · intro x1 x2 x3 Y hz
          refine hB _ _ _ _ _ (fun m1 hm1 => ?_)
          dsimp only [ugo, uwp, ust, uct, rfd, BjudgeStep, BjudgeStep_568, Nat.beq, lv_args, rlk, rs1, rs2, rdl, rky, rcd, rno, rsw, Value.category, List.filter, List.take, List.drop, List.reverse, List.reverseAux, List.cons_append, List.nil_append, Option.toList, Int.toNat, Int.reduceToNat, if_pos, if_neg, reduceIte, ↓reduceIte, Nat.reduceAdd, Nat.reduceEqDiff, Nat.reduceBEq, beq_self_eq_true, Bool.not_true, Bool.not_false, Bool.and_true, Bool.and_false, Bool.true_and, Bool.false_and, gI_sI, gI_sL, gI_sA, gI_sM, gL_sI, gL_sL, gL_sA, gL_sM, aI_sI, aI_sL, aI_sA, aI_sM, aL_sI, aL_sL, aL_sA, aL_sM, oi_3]; try dsimp only
          refine ⟨trivial, fun w2 τ2 hq2 => ?_⟩
          obtain ⟨rfl, b2, rfl, hb2⟩ := hq2 trivial
          dsimp only [Option.toList, List.cons_append, List.nil_append, Nat.beq, gI_sI, gI_sL, gI_sA, gI_sM, gL_sI, gL_sL, gL_sA, gL_sM, aI_sI, aI_sL, aI_sA, aI_sM, aL_sI, aL_sL, aL_sA, aL_sM]
          refine ⟨fun h3 => ?_, fun h3 => ?_⟩
          · exact hW _ 594 [(0, .ref 1000), (1, .int x1), (2, .int x2), (3, .int x3)] _ _ _ (by simp [rdl, rky, Value.category]) ((ih m1 hm1).2.2.2.2.2.2.2.2.2.2.2.2.2.2.2.2.2.2.2.2.2.2.2.2.2.2.2.2.2.2.2.2.2.2.2.2.2.1 x1 x2 x3 _ hz)
          · exact hW _ 580 [(0, .ref 1000), (1, .int x1), (2, .int x2), (3, .int x3)] _ _ _ (by simp [rdl, rky, Value.category]) ((ih m1 hm1).2.2.2.2.2.2.2.2.2.2.2.2.2.2.2.2.2.2.2.2.2.2.2.2.2.2.2.2.2.2.2.2.2.2.2.2.1 x1 x2 x3 _ hz)
        · intro x1 x2 x3 Y hz
          refine hB _ _ _ _ _ (fun m1 hm1 => ?_)
          dsimp only [ugo, uwp, ust, uct, rfd, BjudgeStep, BjudgeStep_580, Nat.beq, lv_args, rlk, rs1, rs2, rdl, rky, rcd, rno, rsw, Value.category, List.filter, List.take, List.drop, List.reverse, List.reverseAux, List.cons_append, List.nil_append, Option.toList, Int.toNat, Int.reduceToNat, if_pos, if_neg, reduceIte, ↓reduceIte, Nat.reduceAdd, Nat.reduceEqDiff, Nat.reduceBEq, beq_self_eq_true, Bool.not_true, Bool.not_false, Bool.and_true, Bool.and_false, Bool.true_and, Bool.false_and, gI_sI, gI_sL, gI_sA, gI_sM, gL_sI, gL_sL, gL_sA, gL_sM, aI_sI, aI_sL, aI_sA, aI_sM, aL_sI, aL_sL, aL_sA, aL_sM, oi_5]; try dsimp only
          intro p2
          refine ⟨trivial, fun w3 τ3 hq3 => ?_⟩
          obtain ⟨rfl, hz3⟩ := hq3 (show ¬ (5 : Int32) = 0 by decide)
          dsimp only [Option.toList, List.cons_append, List.nil_append, Nat.beq, gI_sI, gI_sL, gI_sA, gI_sM, gL_sI, gL_sL, gL_sA, gL_sM, aI_sI, aI_sL, aI_sA, aI_sM, aL_sI, aL_sL, aL_sA, aL_sM]
          exact hW _ 594 [(0, .ref 1000), (1, .int x1), (2, .int x2), (3, .int x3)] _ _ _ (by simp [rdl, rky, Value.category]) ((ih m1 hm1).2.2.2.2.2.2.2.2.2.2.2.2.2.2.2.2.2.2.2.2.2.2.2.2.2.2.2.2.2.2.2.2.2.2.2.2.2.1 x1 x2 x3 _ hz3)
        · intro x1 x2 x3 Y hz
          refine hB _ _ _ _ _ (fun m1 hm1 => ?_)
          dsimp only [ugo, uwp, ust, uct, rfd, BjudgeStep, BjudgeStep_594, Nat.beq, lv_args, rlk, rs1, rs2, rdl, rky, rcd, rno, rsw, Value.category, List.filter, List.take, List.drop, List.reverse, List.reverseAux, List.cons_append, List.nil_append, Option.toList, Int.toNat, Int.reduceToNat, if_pos, if_neg, reduceIte, ↓reduceIte, Nat.reduceAdd, Nat.reduceEqDiff, Nat.reduceBEq, beq_self_eq_true, Bool.not_true, Bool.not_false, Bool.and_true, Bool.and_false, Bool.true_and, Bool.false_and, gI_sI, gI_sL, gI_sA, gI_sM, gL_sI, gL_sL, gL_sA, gL_sM, aI_sI, aI_sL, aI_sA, aI_sM, aL_sI, aL_sL, aL_sA, aL_sM]; try dsimp only
          unfold Qv_judgeStepB
          try dsimp only
          exact ⟨rfl, ok, F, hs1, Or.inl ⟨hs2, hz⟩⟩
        · intro x1 x2 x3 Y hz
          refine hB _ _ _ _ _ (fun m1 hm1 => ?_)
          dsimp only [ugo, uwp, ust, uct, rfd, BjudgeStep, BjudgeStep_595, Nat.beq, lv_args, rlk, rs1, rs2, rdl, rky, rcd, rno, rsw, Value.category, List.filter, List.take, List.drop, List.reverse, List.reverseAux, List.cons_append, List.nil_append, Option.toList, Int.toNat, Int.reduceToNat, if_pos, if_neg, reduceIte, ↓reduceIte, Nat.reduceAdd, Nat.reduceEqDiff, Nat.reduceBEq, beq_self_eq_true, Bool.not_true, Bool.not_false, Bool.and_true, Bool.and_false, Bool.true_and, Bool.false_and, gI_sI, gI_sL, gI_sA, gI_sM, gL_sI, gL_sL, gL_sA, gL_sM, aI_sI, aI_sL, aI_sA, aI_sM, aL_sI, aL_sL, aL_sA, aL_sM, oi_1]; try dsimp only
          unfold Qv_judgeStepB
          try dsimp only
          exact ⟨rfl, ok, F, hs1, Or.inl ⟨hs2, hz⟩⟩
        · intro x1 x2 x3 Y hz
          refine hB _ _ _ _ _ (fun m1 hm1 => ?_)
          dsimp only [ugo, uwp, ust, uct, rfd, BjudgeStep, BjudgeStep_606, Nat.beq, lv_args, rlk, rs1, rs2, rdl, rky, rcd, rno, rsw, Value.category, List.filter, List.take, List.drop, List.reverse, List.reverseAux, List.cons_append, List.nil_append, Option.toList, Int.toNat, Int.reduceToNat, if_pos, if_neg, reduceIte, ↓reduceIte, Nat.reduceAdd, Nat.reduceEqDiff, Nat.reduceBEq, beq_self_eq_true, Bool.not_true, Bool.not_false, Bool.and_true, Bool.and_false, Bool.true_and, Bool.false_and, gI_sI, gI_sL, gI_sA, gI_sM, gL_sI, gL_sL, gL_sA, gL_sM, aI_sI, aI_sL, aI_sA, aI_sM, aL_sI, aL_sL, aL_sA, aL_sM]; try dsimp only
          unfold Qv_judgeStepB
          try dsimp only
          exact ⟨rfl, ok, F, hs1, Or.inl ⟨hs2, hz⟩⟩
    have l435 : (aI σ 19 c.toNatClampNeg).toInt = 41 → ∀ (N : Nat) (i : Int32), 0 ≤ i.toInt → (∀ u : Int32, 0 ≤ u.toInt → u.toInt < i.toInt → ¬ sameR σ (aI σ 60 (aI σ 90 u.toNatClampNeg).toNatClampNeg).toNatClampNeg (aI σ 22 c.toNatClampNeg).toNatClampNeg) → K N 435 [(0, .ref 1000), (1, .int c), (2, .int ((aI σ 20) (c).toNatClampNeg)), (3, .int ((aI σ 22) (c).toNatClampNeg)), (6, .int i)] [] (sA σ 80 (upd (aI σ 80) (((aI σ 22) (c).toNatClampNeg)).toNatClampNeg 200)) := by
      intro h41 N
      induction N using Nat.strongRecOn with
      | ind N l435 =>
        intro i hi0 hI
        refine hB _ _ _ _ _ (fun m1 hm1 => ?_)
        dsimp only [ugo, uwp, ust, uct, rfd, BjudgeStep, BjudgeStep_435, Nat.beq, lv_args, rlk, rs1, rs2, rdl, rky, rcd, rno, rsw, Value.category, List.filter, List.take, List.drop, List.reverse, List.reverseAux, List.cons_append, List.nil_append, Option.toList, Int.toNat, Int.reduceToNat, if_pos, if_neg, reduceIte, ↓reduceIte, Nat.reduceAdd, Nat.reduceEqDiff, Nat.reduceBEq, beq_self_eq_true, Bool.not_true, Bool.not_false, Bool.and_true, Bool.and_false, Bool.true_and, Bool.false_and, gI_sI, gI_sL, gI_sA, gI_sM, gL_sI, gL_sL, gL_sA, gL_sM, aI_sI, aI_sL, aI_sA, aI_sM, aL_sI, aL_sL, aL_sA, aL_sM]; try dsimp only
        refine ⟨fun h2 => ?_, fun h2 => ?_⟩
        · have c2 : (gI σ 91).toInt ≤ i.toInt := (cI (rfl : i.toInt = i.toInt) (rfl : (gI σ 91).toInt = (gI σ 91).toInt)).2.2.2.2.mp h2
          refine hB _ _ _ _ _ (fun m3 hm3 => ?_)
          dsimp only [ugo, uwp, ust, uct, rfd, BjudgeStep, BjudgeStep_477, Nat.beq, lv_args, rlk, rs1, rs2, rdl, rky, rcd, rno, rsw, Value.category, List.filter, List.take, List.drop, List.reverse, List.reverseAux, List.cons_append, List.nil_append, Option.toList, Int.toNat, Int.reduceToNat, if_pos, if_neg, reduceIte, ↓reduceIte, Nat.reduceAdd, Nat.reduceEqDiff, Nat.reduceBEq, beq_self_eq_true, Bool.not_true, Bool.not_false, Bool.and_true, Bool.and_false, Bool.true_and, Bool.false_and, gI_sI, gI_sL, gI_sA, gI_sM, gL_sI, gL_sL, gL_sA, gL_sM, aI_sI, aI_sL, aI_sA, aI_sM, aL_sI, aL_sL, aL_sA, aL_sM, oi_1]; try dsimp only
          have hall : So_41 σ c e vt rt kt := fun u h1 h2 => hI u h1 (by omega)
          intro p4
          unfold Qv_judgeStepB
          try dsimp only
          exact ⟨rfl, _, _, sr_41 h41, Or.inr ⟨hall, rfl⟩⟩
        · have c2 : i.toInt < (gI σ 91).toInt := (cI (rfl : i.toInt = i.toInt) (rfl : (gI σ 91).toInt = (gI σ 91).toInt)).2.1.mp (by first | exact h2 | exact Int32.not_lt.mp h2 | exact Int32.not_le.mp h2)
          refine hB _ _ _ _ _ (fun m5 hm5 => ?_)
          dsimp only [ugo, uwp, ust, uct, rfd, BjudgeStep, BjudgeStep_444, Nat.beq, lv_args, rlk, rs1, rs2, rdl, rky, rcd, rno, rsw, Value.category, List.filter, List.take, List.drop, List.reverse, List.reverseAux, List.cons_append, List.nil_append, Option.toList, Int.toNat, Int.reduceToNat, if_pos, if_neg, reduceIte, ↓reduceIte, Nat.reduceAdd, Nat.reduceEqDiff, Nat.reduceBEq, beq_self_eq_true, Bool.not_true, Bool.not_false, Bool.and_true, Bool.and_false, Bool.true_and, Bool.false_and, gI_sI, gI_sL, gI_sA, gI_sM, gL_sI, gL_sL, gL_sA, gL_sM, aI_sI, aI_sL, aI_sA, aI_sM, aL_sI, aL_sL, aL_sA, aL_sM]; try dsimp only
          intro p6
          intro p7
          refine ⟨trivial, fun w8 τ8 hq8 => ?_⟩
          obtain ⟨rfl, hb8⟩ := hq8 trivial
          rcases hb8 with ⟨rfl, hs8⟩ | ⟨rfl, hs8⟩
          · dsimp only [Option.toList, List.cons_append, List.nil_append, Nat.beq, gI_sI, gI_sL, gI_sA, gI_sM, gL_sI, gL_sL, gL_sA, gL_sM, aI_sI, aI_sL, aI_sA, aI_sM, aL_sI, aL_sL, aL_sA, aL_sM]
            have hs8 : sameR (sA σ 80 (upd (aI σ 80) (((aI σ 22) (c).toNatClampNeg)).toNatClampNeg 200)) (((aI σ 60) (((aI σ 90) (i).toNatClampNeg)).toNatClampNeg)).toNatClampNeg (((aI σ 22) (c).toNatClampNeg)).toNatClampNeg := hs8
            refine ⟨fun h9 => absurd h9 (by decide), fun h9 => ?_⟩
            clear h9
            refine hB _ _ _ _ _ (fun m10 hm10 => ?_)
            dsimp only [ugo, uwp, ust, uct, rfd, BjudgeStep, BjudgeStep_464, Nat.beq, lv_args, rlk, rs1, rs2, rdl, rky, rcd, rno, rsw, Value.category, List.filter, List.take, List.drop, List.reverse, List.reverseAux, List.cons_append, List.nil_append, Option.toList, Int.toNat, Int.reduceToNat, if_pos, if_neg, reduceIte, ↓reduceIte, Nat.reduceAdd, Nat.reduceEqDiff, Nat.reduceBEq, beq_self_eq_true, Bool.not_true, Bool.not_false, Bool.and_true, Bool.and_false, Bool.true_and, Bool.false_and, gI_sI, gI_sL, gI_sA, gI_sM, gL_sI, gL_sL, gL_sA, gL_sM, aI_sI, aI_sL, aI_sA, aI_sM, aL_sI, aL_sL, aL_sA, aL_sM, oi_10]; try dsimp only
            refine ⟨trivial, fun w11 τ11 hq11 => ?_⟩
            obtain ⟨rfl, hz11⟩ := hq11 (show ¬ (10 : Int32) = 0 by decide)
            dsimp only [Option.toList, List.cons_append, List.nil_append, Nat.beq, gI_sI, gI_sL, gI_sA, gI_sM, gL_sI, gL_sL, gL_sA, gL_sM, aI_sI, aI_sL, aI_sA, aI_sM, aL_sI, aL_sL, aL_sA, aL_sM]
            exact hW _ 471 [(0, .ref 1000), (1, .int c), (2, .int ((aI σ 20) (c).toNatClampNeg)), (3, .int ((aI σ 22) (c).toNatClampNeg)), (6, .int i)] _ _ _ (by simp [rdl, rky, Value.category]) ((bad (by exact ⟨_, _, sr_41 h41, fun q => absurd (show sameR σ _ _ from hs8) (q i (by omega) (by omega))⟩) _).2.2.2.2.2.2.2.2.2.2.2.2.2.2.2.2.2.2.2.2.2.2.2.2.2.1 c ((aI σ 20) (c).toNatClampNeg) ((aI σ 22) (c).toNatClampNeg) i _ hz11)
          · dsimp only [Option.toList, List.cons_append, List.nil_append, Nat.beq, gI_sI, gI_sL, gI_sA, gI_sM, gL_sI, gL_sL, gL_sA, gL_sM, aI_sI, aI_sL, aI_sA, aI_sM, aL_sI, aL_sL, aL_sA, aL_sM]
            have hs8 : ¬ sameR (sA σ 80 (upd (aI σ 80) (((aI σ 22) (c).toNatClampNeg)).toNatClampNeg 200)) (((aI σ 60) (((aI σ 90) (i).toNatClampNeg)).toNatClampNeg)).toNatClampNeg (((aI σ 22) (c).toNatClampNeg)).toNatClampNeg := hs8
            refine ⟨fun h12 => ?_, fun h12 => absurd h12 (by decide)⟩
            clear h12
            refine hB _ _ _ _ _ (fun m13 hm13 => ?_)
            dsimp only [ugo, uwp, ust, uct, rfd, BjudgeStep, BjudgeStep_471, Nat.beq, lv_args, rlk, rs1, rs2, rdl, rky, rcd, rno, rsw, Value.category, List.filter, List.take, List.drop, List.reverse, List.reverseAux, List.cons_append, List.nil_append, Option.toList, Int.toNat, Int.reduceToNat, if_pos, if_neg, reduceIte, ↓reduceIte, Nat.reduceAdd, Nat.reduceEqDiff, Nat.reduceBEq, beq_self_eq_true, Bool.not_true, Bool.not_false, Bool.and_true, Bool.and_false, Bool.true_and, Bool.false_and, gI_sI, gI_sL, gI_sA, gI_sM, gL_sI, gL_sL, gL_sA, gL_sM, aI_sI, aI_sL, aI_sA, aI_sM, aL_sI, aL_sL, aL_sA, aL_sM, oi_1]; try dsimp only
            have hns : ¬ sameR σ (aI σ 60 (aI σ 90 i.toNatClampNeg).toNatClampNeg).toNatClampNeg (aI σ 22 c.toNatClampNeg).toNatClampNeg := hs8
            have ii := i32_1 (v := i) rfl (by have := (gI σ 91).toInt_lt; omega) (by omega)
            exact hW _ 435 [(0, .ref 1000), (1, .int c), (2, .int ((aI σ 20) (c).toNatClampNeg)), (3, .int ((aI σ 22) (c).toNatClampNeg)), (6, .int (i + 1))] _ _ _ (by simp [rdl, rky, Value.category]) (l435 _ (by omega) (i + 1) (by omega) (fun u h1 h2 => by by_cases eu : u.toInt = i.toInt; (rw [show u = i from Int32.toInt_inj.mp eu]; exact hns); exact hI u h1 (by omega)))
    intro n0
    refine hB _ _ _ _ _ (fun m1 hm1 => ?_)
    dsimp only [ugo, uwp, ust, uct, rfd, BjudgeStep, BjudgeStep_0, Nat.beq, lv_args, rlk, rs1, rs2, rdl, rky, rcd, rno, rsw, Value.category, List.filter, List.take, List.drop, List.reverse, List.reverseAux, List.cons_append, List.nil_append, Option.toList, Int.toNat, Int.reduceToNat, if_pos, if_neg, reduceIte, ↓reduceIte, Nat.reduceAdd, Nat.reduceEqDiff, Nat.reduceBEq, beq_self_eq_true, Bool.not_true, Bool.not_false, Bool.and_true, Bool.and_false, Bool.true_and, Bool.false_and, gI_sI, gI_sL, gI_sA, gI_sM, gL_sI, gL_sL, gL_sA, gL_sM, aI_sI, aI_sL, aI_sA, aI_sM, aL_sI, aL_sL, aL_sA, aL_sM]; try dsimp only
    intro p2
    intro p3
    intro p4
    refine ⟨fun h5 => ?_, fun h5 => ?_⟩
    · have c5 : (aI σ 19 c.toNatClampNeg).toInt = 21 := (rfl : (aI σ 19 c.toNatClampNeg).toInt = (aI σ 19 c.toNatClampNeg).toInt).symm.trans h5
      refine hB _ _ _ _ _ (fun m6 hm6 => ?_)
      dsimp only [ugo, uwp, ust, uct, rfd, BjudgeStep, BjudgeStep_172, Nat.beq, lv_args, rlk, rs1, rs2, rdl, rky, rcd, rno, rsw, Value.category, List.filter, List.take, List.drop, List.reverse, List.reverseAux, List.cons_append, List.nil_append, Option.toList, Int.toNat, Int.reduceToNat, if_pos, if_neg, reduceIte, ↓reduceIte, Nat.reduceAdd, Nat.reduceEqDiff, Nat.reduceBEq, beq_self_eq_true, Bool.not_true, Bool.not_false, Bool.and_true, Bool.and_false, Bool.true_and, Bool.false_and, gI_sI, gI_sL, gI_sA, gI_sM, gL_sI, gL_sL, gL_sA, gL_sM, aI_sI, aI_sL, aI_sA, aI_sM, aL_sI, aL_sL, aL_sA, aL_sM, oi_1]; try dsimp only
      intro p7
      intro p8
      refine ⟨fun h9 => ?_, fun h9 => ?_⟩
      · refine hB _ _ _ _ _ (fun m10 hm10 => ?_)
        dsimp only [ugo, uwp, ust, uct, rfd, BjudgeStep, BjudgeStep_208, Nat.beq, lv_args, rlk, rs1, rs2, rdl, rky, rcd, rno, rsw, Value.category, List.filter, List.take, List.drop, List.reverse, List.reverseAux, List.cons_append, List.nil_append, Option.toList, Int.toNat, Int.reduceToNat, if_pos, if_neg, reduceIte, ↓reduceIte, Nat.reduceAdd, Nat.reduceEqDiff, Nat.reduceBEq, beq_self_eq_true, Bool.not_true, Bool.not_false, Bool.and_true, Bool.and_false, Bool.true_and, Bool.false_and, gI_sI, gI_sL, gI_sA, gI_sM, gL_sI, gL_sL, gL_sA, gL_sM, aI_sI, aI_sL, aI_sA, aI_sM, aL_sI, aL_sL, aL_sA, aL_sM]; try dsimp only
        unfold Qv_judgeStepB
        try dsimp only
        exact ⟨rfl, _, _, sr_21 (by omega), Or.inr ⟨(by assumption : ¬ (aI σ 20 c.toNatClampNeg) = 0), rfl⟩⟩
      · refine hB _ _ _ _ _ (fun m11 hm11 => ?_)
        dsimp only [ugo, uwp, ust, uct, rfd, BjudgeStep, BjudgeStep_201, Nat.beq, lv_args, rlk, rs1, rs2, rdl, rky, rcd, rno, rsw, Value.category, List.filter, List.take, List.drop, List.reverse, List.reverseAux, List.cons_append, List.nil_append, Option.toList, Int.toNat, Int.reduceToNat, if_pos, if_neg, reduceIte, ↓reduceIte, Nat.reduceAdd, Nat.reduceEqDiff, Nat.reduceBEq, beq_self_eq_true, Bool.not_true, Bool.not_false, Bool.and_true, Bool.and_false, Bool.true_and, Bool.false_and, gI_sI, gI_sL, gI_sA, gI_sM, gL_sI, gL_sL, gL_sA, gL_sM, aI_sI, aI_sL, aI_sA, aI_sM, aL_sI, aL_sL, aL_sA, aL_sM, oi_12]; try dsimp only
        refine ⟨trivial, fun w12 τ12 hq12 => ?_⟩
        obtain ⟨rfl, hz12⟩ := hq12 (show ¬ (12 : Int32) = 0 by decide)
        dsimp only [Option.toList, List.cons_append, List.nil_append, Nat.beq, gI_sI, gI_sL, gI_sA, gI_sM, gL_sI, gL_sL, gL_sA, gL_sM, aI_sI, aI_sL, aI_sA, aI_sM, aL_sI, aL_sL, aL_sA, aL_sM]
        exact hW _ 208 [(0, .ref 1000), (1, .int c), (2, .int ((aI σ 20) (c).toNatClampNeg)), (3, .int ((aI σ 22) (c).toNatClampNeg))] _ _ _ (by simp [rdl, rky, Value.category]) ((bad (by exact ⟨_, _, sr_21 (by omega), fun q => absurd (by assumption) q⟩) _).2.2.2.1 c ((aI σ 20) (c).toNatClampNeg) ((aI σ 22) (c).toNatClampNeg) _ hz12)
    have c5 : ¬ (aI σ 19 c.toNatClampNeg).toInt = 21 := fun q => h5 ((rfl : (aI σ 19 c.toNatClampNeg).toInt = (aI σ 19 c.toNatClampNeg).toInt).trans q)
    refine ⟨fun h13 => ?_, fun h13 => ?_⟩
    · have c13 : (aI σ 19 c.toNatClampNeg).toInt = 22 := (rfl : (aI σ 19 c.toNatClampNeg).toInt = (aI σ 19 c.toNatClampNeg).toInt).symm.trans h13
      refine hB _ _ _ _ _ (fun m14 hm14 => ?_)
      dsimp only [ugo, uwp, ust, uct, rfd, BjudgeStep, BjudgeStep_209, Nat.beq, lv_args, rlk, rs1, rs2, rdl, rky, rcd, rno, rsw, Value.category, List.filter, List.take, List.drop, List.reverse, List.reverseAux, List.cons_append, List.nil_append, Option.toList, Int.toNat, Int.reduceToNat, if_pos, if_neg, reduceIte, ↓reduceIte, Nat.reduceAdd, Nat.reduceEqDiff, Nat.reduceBEq, beq_self_eq_true, Bool.not_true, Bool.not_false, Bool.and_true, Bool.and_false, Bool.true_and, Bool.false_and, gI_sI, gI_sL, gI_sA, gI_sM, gL_sI, gL_sL, gL_sA, gL_sM, aI_sI, aI_sL, aI_sA, aI_sM, aL_sI, aL_sL, aL_sA, aL_sM, oi_2]; try dsimp only
      intro p15
      refine ⟨fun h16 => ?_, fun h16 => ?_⟩
      · refine hB _ _ _ _ _ (fun m17 hm17 => ?_)
        dsimp only [ugo, uwp, ust, uct, rfd, BjudgeStep, BjudgeStep_225, Nat.beq, lv_args, rlk, rs1, rs2, rdl, rky, rcd, rno, rsw, Value.category, List.filter, List.take, List.drop, List.reverse, List.reverseAux, List.cons_append, List.nil_append, Option.toList, Int.toNat, Int.reduceToNat, if_pos, if_neg, reduceIte, ↓reduceIte, Nat.reduceAdd, Nat.reduceEqDiff, Nat.reduceBEq, beq_self_eq_true, Bool.not_true, Bool.not_false, Bool.and_true, Bool.and_false, Bool.true_and, Bool.false_and, gI_sI, gI_sL, gI_sA, gI_sM, gL_sI, gL_sL, gL_sA, gL_sM, aI_sI, aI_sL, aI_sA, aI_sM, aL_sI, aL_sL, aL_sA, aL_sM]; try dsimp only
        unfold Qv_judgeStepB
        try dsimp only
        exact ⟨rfl, _, _, sr_22a ⟨by omega, by assumption⟩, Or.inr ⟨trivial, rfl⟩⟩
      · refine hB _ _ _ _ _ (fun m18 hm18 => ?_)
        dsimp only [ugo, uwp, ust, uct, rfd, BjudgeStep, BjudgeStep_219, Nat.beq, lv_args, rlk, rs1, rs2, rdl, rky, rcd, rno, rsw, Value.category, List.filter, List.take, List.drop, List.reverse, List.reverseAux, List.cons_append, List.nil_append, Option.toList, Int.toNat, Int.reduceToNat, if_pos, if_neg, reduceIte, ↓reduceIte, Nat.reduceAdd, Nat.reduceEqDiff, Nat.reduceBEq, beq_self_eq_true, Bool.not_true, Bool.not_false, Bool.and_true, Bool.and_false, Bool.true_and, Bool.false_and, gI_sI, gI_sL, gI_sA, gI_sM, gL_sI, gL_sL, gL_sA, gL_sM, aI_sI, aI_sL, aI_sA, aI_sM, aL_sI, aL_sL, aL_sA, aL_sM]; try dsimp only
        refine ⟨trivial, fun w19 τ19 hq19 => ?_⟩
        obtain ⟨rfl, hJ19⟩ := hq19.2 e vt ⟨hE, (fun q => hte (Or.inr (Or.inl ⟨by omega, q, by assumption⟩))), (hv (by omega) (by assumption)).1, (hv (by omega) (by assumption)).2.1, (hv (by omega) (by assumption)).2.2⟩
        dsimp only [Option.toList, List.cons_append, List.nil_append, Nat.beq, gI_sI, gI_sL, gI_sA, gI_sM, gL_sI, gL_sL, gL_sA, gL_sM, aI_sI, aI_sL, aI_sA, aI_sM, aL_sI, aL_sL, aL_sA, aL_sM]
        refine hB _ _ _ _ _ (fun m20 hm20 => ?_)
        dsimp only [ugo, uwp, ust, uct, rfd, BjudgeStep, BjudgeStep_225, Nat.beq, lv_args, rlk, rs1, rs2, rdl, rky, rcd, rno, rsw, Value.category, List.filter, List.take, List.drop, List.reverse, List.reverseAux, List.cons_append, List.nil_append, Option.toList, Int.toNat, Int.reduceToNat, if_pos, if_neg, reduceIte, ↓reduceIte, Nat.reduceAdd, Nat.reduceEqDiff, Nat.reduceBEq, beq_self_eq_true, Bool.not_true, Bool.not_false, Bool.and_true, Bool.and_false, Bool.true_and, Bool.false_and, gI_sI, gI_sL, gI_sA, gI_sM, gL_sI, gL_sL, gL_sA, gL_sM, aI_sI, aI_sL, aI_sA, aI_sM, aL_sI, aL_sL, aL_sA, aL_sM]; try dsimp only
        unfold Qv_judgeStepB
        try dsimp only
        rcases hJ19 with ⟨q1, q2⟩ | ⟨q1, q2⟩
        · exact ⟨rfl, _, _, sr_22b ⟨by omega, by assumption⟩, Or.inl ⟨q1, q2⟩⟩
        · exact ⟨rfl, _, _, sr_22b ⟨by omega, by assumption⟩, Or.inr ⟨q1, q2⟩⟩
    have c13 : ¬ (aI σ 19 c.toNatClampNeg).toInt = 22 := fun q => h13 ((rfl : (aI σ 19 c.toNatClampNeg).toInt = (aI σ 19 c.toNatClampNeg).toInt).trans q)
    refine ⟨fun h21 => ?_, fun h21 => ?_⟩
    · have c21 : (aI σ 19 c.toNatClampNeg).toInt = 23 := (rfl : (aI σ 19 c.toNatClampNeg).toInt = (aI σ 19 c.toNatClampNeg).toInt).symm.trans h21
      refine hB _ _ _ _ _ (fun m22 hm22 => ?_)
      dsimp only [ugo, uwp, ust, uct, rfd, BjudgeStep, BjudgeStep_226, Nat.beq, lv_args, rlk, rs1, rs2, rdl, rky, rcd, rno, rsw, Value.category, List.filter, List.take, List.drop, List.reverse, List.reverseAux, List.cons_append, List.nil_append, Option.toList, Int.toNat, Int.reduceToNat, if_pos, if_neg, reduceIte, ↓reduceIte, Nat.reduceAdd, Nat.reduceEqDiff, Nat.reduceBEq, beq_self_eq_true, Bool.not_true, Bool.not_false, Bool.and_true, Bool.and_false, Bool.true_and, Bool.false_and, gI_sI, gI_sL, gI_sA, gI_sM, gL_sI, gL_sL, gL_sA, gL_sM, aI_sI, aI_sL, aI_sA, aI_sM, aL_sI, aL_sL, aL_sA, aL_sM, oi_0, oi_1]; try dsimp only
      refine ⟨trivial, fun w23 τ23 hq23 => ?_⟩
      obtain ⟨hA23, b23, rfl, hb23⟩ := hq23 trivial
      rcases hb23 _ (hte (by first | omega | exact Or.inr (Or.inr (Or.inr (Or.inr (Or.inr (Or.inl ⟨by omega, by assumption⟩))))))) with ⟨rfl, rfl, hd23⟩ | ⟨rfl, hz23, hd23⟩
      · dsimp only [Option.toList, List.cons_append, List.nil_append, Nat.beq, gI_sI, gI_sL, gI_sA, gI_sM, gL_sI, gL_sL, gL_sA, gL_sM, aI_sI, aI_sL, aI_sA, aI_sM, aL_sI, aL_sL, aL_sA, aL_sM]
        have hd23 : e.1 = 0 := (nd_t (rfl)).mp hd23
        refine ⟨trivial, fun w24 τ24 hq24 => ?_⟩
        obtain ⟨rfl, u24, hu24, rfl⟩ := hq24 trivial
        dsimp only [Option.toList, List.cons_append, List.nil_append, Nat.beq, gI_sI, gI_sL, gI_sA, gI_sM, gL_sI, gL_sL, gL_sA, gL_sM, aI_sI, aI_sL, aI_sA, aI_sM, aL_sI, aL_sL, aL_sA, aL_sM]
        unfold Qv_judgeStepB
        try dsimp only
        exact ⟨rfl, _, _, sr_23 (by omega), Or.inr ⟨(by assumption : e.1 = 0), ⟨u24, hu24 e (hte (by first | omega | exact Or.inr (Or.inr (Or.inr (Or.inr (Or.inr (Or.inl ⟨by omega, by assumption⟩))))))), rfl⟩⟩⟩
      · dsimp only [Option.toList, List.cons_append, List.nil_append, Nat.beq, gI_sI, gI_sL, gI_sA, gI_sM, gL_sI, gL_sL, gL_sA, gL_sM, aI_sI, aI_sL, aI_sA, aI_sM, aL_sI, aL_sL, aL_sA, aL_sM]
        have hd23 : ¬ (e.1 = 0) := fun q => hd23 ((nd_t (rfl)).mpr q)
        refine ⟨trivial, fun w25 τ25 hq25 => ?_⟩
        obtain ⟨rfl, u25, hu25, rfl⟩ := hq25 trivial
        dsimp only [Option.toList, List.cons_append, List.nil_append, Nat.beq, gI_sI, gI_sL, gI_sA, gI_sM, gL_sI, gL_sL, gL_sA, gL_sM, aI_sI, aI_sL, aI_sA, aI_sM, aL_sI, aL_sL, aL_sA, aL_sM]
        unfold Qv_judgeStepB
        try dsimp only
        obtain ⟨ok, F, hs1, hs2⟩ : ∃ ok F, StR σ c e vt rt kt ok F ∧ ¬ ok := by exact ⟨_, _, sr_23 (by omega), fun q => absurd q (by assumption)⟩
        exact ⟨rfl, ok, F, hs1, Or.inl ⟨hs2, hz23⟩⟩
    have c21 : ¬ (aI σ 19 c.toNatClampNeg).toInt = 23 := fun q => h21 ((rfl : (aI σ 19 c.toNatClampNeg).toInt = (aI σ 19 c.toNatClampNeg).toInt).trans q)
    refine ⟨fun h26 => ?_, fun h26 => ?_⟩
    · have c26 : (aI σ 19 c.toNatClampNeg).toInt = 24 := (rfl : (aI σ 19 c.toNatClampNeg).toInt = (aI σ 19 c.toNatClampNeg).toInt).symm.trans h26
      refine hB _ _ _ _ _ (fun m27 hm27 => ?_)
      dsimp only [ugo, uwp, ust, uct, rfd, BjudgeStep, BjudgeStep_606, Nat.beq, lv_args, rlk, rs1, rs2, rdl, rky, rcd, rno, rsw, Value.category, List.filter, List.take, List.drop, List.reverse, List.reverseAux, List.cons_append, List.nil_append, Option.toList, Int.toNat, Int.reduceToNat, if_pos, if_neg, reduceIte, ↓reduceIte, Nat.reduceAdd, Nat.reduceEqDiff, Nat.reduceBEq, beq_self_eq_true, Bool.not_true, Bool.not_false, Bool.and_true, Bool.and_false, Bool.true_and, Bool.false_and, gI_sI, gI_sL, gI_sA, gI_sM, gL_sI, gL_sL, gL_sA, gL_sM, aI_sI, aI_sL, aI_sA, aI_sM, aL_sI, aL_sL, aL_sA, aL_sM]; try dsimp only
      unfold Qv_judgeStepB
      try dsimp only
      exact ⟨rfl, _, _, sr_0 (by omega), Or.inr ⟨trivial, rfl⟩⟩
    have c26 : ¬ (aI σ 19 c.toNatClampNeg).toInt = 24 := fun q => h26 ((rfl : (aI σ 19 c.toNatClampNeg).toInt = (aI σ 19 c.toNatClampNeg).toInt).trans q)
    refine ⟨fun h28 => ?_, fun h28 => ?_⟩
    · have c28 : (aI σ 19 c.toNatClampNeg).toInt = 25 := (rfl : (aI σ 19 c.toNatClampNeg).toInt = (aI σ 19 c.toNatClampNeg).toInt).symm.trans h28
      refine hB _ _ _ _ _ (fun m29 hm29 => ?_)
      dsimp only [ugo, uwp, ust, uct, rfd, BjudgeStep, BjudgeStep_606, Nat.beq, lv_args, rlk, rs1, rs2, rdl, rky, rcd, rno, rsw, Value.category, List.filter, List.take, List.drop, List.reverse, List.reverseAux, List.cons_append, List.nil_append, Option.toList, Int.toNat, Int.reduceToNat, if_pos, if_neg, reduceIte, ↓reduceIte, Nat.reduceAdd, Nat.reduceEqDiff, Nat.reduceBEq, beq_self_eq_true, Bool.not_true, Bool.not_false, Bool.and_true, Bool.and_false, Bool.true_and, Bool.false_and, gI_sI, gI_sL, gI_sA, gI_sM, gL_sI, gL_sL, gL_sA, gL_sM, aI_sI, aI_sL, aI_sA, aI_sM, aL_sI, aL_sL, aL_sA, aL_sM]; try dsimp only
      unfold Qv_judgeStepB
      try dsimp only
      exact ⟨rfl, _, _, sr_0 (by omega), Or.inr ⟨trivial, rfl⟩⟩
    have c28 : ¬ (aI σ 19 c.toNatClampNeg).toInt = 25 := fun q => h28 ((rfl : (aI σ 19 c.toNatClampNeg).toInt = (aI σ 19 c.toNatClampNeg).toInt).trans q)
    refine ⟨fun h30 => ?_, fun h30 => ?_⟩
    · have c30 : (aI σ 19 c.toNatClampNeg).toInt = 26 := (rfl : (aI σ 19 c.toNatClampNeg).toInt = (aI σ 19 c.toNatClampNeg).toInt).symm.trans h30
      refine hB _ _ _ _ _ (fun m31 hm31 => ?_)
      dsimp only [ugo, uwp, ust, uct, rfd, BjudgeStep, BjudgeStep_606, Nat.beq, lv_args, rlk, rs1, rs2, rdl, rky, rcd, rno, rsw, Value.category, List.filter, List.take, List.drop, List.reverse, List.reverseAux, List.cons_append, List.nil_append, Option.toList, Int.toNat, Int.reduceToNat, if_pos, if_neg, reduceIte, ↓reduceIte, Nat.reduceAdd, Nat.reduceEqDiff, Nat.reduceBEq, beq_self_eq_true, Bool.not_true, Bool.not_false, Bool.and_true, Bool.and_false, Bool.true_and, Bool.false_and, gI_sI, gI_sL, gI_sA, gI_sM, gL_sI, gL_sL, gL_sA, gL_sM, aI_sI, aI_sL, aI_sA, aI_sM, aL_sI, aL_sL, aL_sA, aL_sM]; try dsimp only
      unfold Qv_judgeStepB
      try dsimp only
      exact ⟨rfl, _, _, sr_0 (by omega), Or.inr ⟨trivial, rfl⟩⟩
    have c30 : ¬ (aI σ 19 c.toNatClampNeg).toInt = 26 := fun q => h30 ((rfl : (aI σ 19 c.toNatClampNeg).toInt = (aI σ 19 c.toNatClampNeg).toInt).trans q)
    refine ⟨fun h32 => ?_, fun h32 => ?_⟩
    · have c32 : (aI σ 19 c.toNatClampNeg).toInt = 27 := (rfl : (aI σ 19 c.toNatClampNeg).toInt = (aI σ 19 c.toNatClampNeg).toInt).symm.trans h32
      refine hB _ _ _ _ _ (fun m33 hm33 => ?_)
      dsimp only [ugo, uwp, ust, uct, rfd, BjudgeStep, BjudgeStep_226, Nat.beq, lv_args, rlk, rs1, rs2, rdl, rky, rcd, rno, rsw, Value.category, List.filter, List.take, List.drop, List.reverse, List.reverseAux, List.cons_append, List.nil_append, Option.toList, Int.toNat, Int.reduceToNat, if_pos, if_neg, reduceIte, ↓reduceIte, Nat.reduceAdd, Nat.reduceEqDiff, Nat.reduceBEq, beq_self_eq_true, Bool.not_true, Bool.not_false, Bool.and_true, Bool.and_false, Bool.true_and, Bool.false_and, gI_sI, gI_sL, gI_sA, gI_sM, gL_sI, gL_sL, gL_sA, gL_sM, aI_sI, aI_sL, aI_sA, aI_sM, aL_sI, aL_sL, aL_sA, aL_sM, oi_0, oi_1]; try dsimp only
      refine ⟨trivial, fun w34 τ34 hq34 => ?_⟩
      obtain ⟨hA34, b34, rfl, hb34⟩ := hq34 trivial
      rcases hb34 _ (hte (by first | omega | exact Or.inr (Or.inr (Or.inr (Or.inr (Or.inr (Or.inl ⟨by omega, by assumption⟩))))))) with ⟨rfl, rfl, hd34⟩ | ⟨rfl, hz34, hd34⟩
      · dsimp only [Option.toList, List.cons_append, List.nil_append, Nat.beq, gI_sI, gI_sL, gI_sA, gI_sM, gL_sI, gL_sL, gL_sA, gL_sM, aI_sI, aI_sL, aI_sA, aI_sM, aL_sI, aL_sL, aL_sA, aL_sM]
        have hd34 : e.1 = 0 := (nd_t (rfl)).mp hd34
        refine ⟨trivial, fun w35 τ35 hq35 => ?_⟩
        obtain ⟨rfl, u35, hu35, rfl⟩ := hq35 trivial
        dsimp only [Option.toList, List.cons_append, List.nil_append, Nat.beq, gI_sI, gI_sL, gI_sA, gI_sM, gL_sI, gL_sL, gL_sA, gL_sM, aI_sI, aI_sL, aI_sA, aI_sM, aL_sI, aL_sL, aL_sA, aL_sM]
        unfold Qv_judgeStepB
        try dsimp only
        exact ⟨rfl, _, _, sr_23 (by omega), Or.inr ⟨(by assumption : e.1 = 0), ⟨u35, hu35 e (hte (by first | omega | exact Or.inr (Or.inr (Or.inr (Or.inr (Or.inr (Or.inl ⟨by omega, by assumption⟩))))))), rfl⟩⟩⟩
      · dsimp only [Option.toList, List.cons_append, List.nil_append, Nat.beq, gI_sI, gI_sL, gI_sA, gI_sM, gL_sI, gL_sL, gL_sA, gL_sM, aI_sI, aI_sL, aI_sA, aI_sM, aL_sI, aL_sL, aL_sA, aL_sM]
        have hd34 : ¬ (e.1 = 0) := fun q => hd34 ((nd_t (rfl)).mpr q)
        refine ⟨trivial, fun w36 τ36 hq36 => ?_⟩
        obtain ⟨rfl, u36, hu36, rfl⟩ := hq36 trivial
        dsimp only [Option.toList, List.cons_append, List.nil_append, Nat.beq, gI_sI, gI_sL, gI_sA, gI_sM, gL_sI, gL_sL, gL_sA, gL_sM, aI_sI, aI_sL, aI_sA, aI_sM, aL_sI, aL_sL, aL_sA, aL_sM]
        unfold Qv_judgeStepB
        try dsimp only
        obtain ⟨ok, F, hs1, hs2⟩ : ∃ ok F, StR σ c e vt rt kt ok F ∧ ¬ ok := by exact ⟨_, _, sr_23 (by omega), fun q => absurd q (by assumption)⟩
        exact ⟨rfl, ok, F, hs1, Or.inl ⟨hs2, hz34⟩⟩
    have c32 : ¬ (aI σ 19 c.toNatClampNeg).toInt = 27 := fun q => h32 ((rfl : (aI σ 19 c.toNatClampNeg).toInt = (aI σ 19 c.toNatClampNeg).toInt).trans q)
    refine ⟨fun h37 => ?_, fun h37 => ?_⟩
    · have c37 : (aI σ 19 c.toNatClampNeg).toInt = 28 := (rfl : (aI σ 19 c.toNatClampNeg).toInt = (aI σ 19 c.toNatClampNeg).toInt).symm.trans h37
      refine hB _ _ _ _ _ (fun m38 hm38 => ?_)
      dsimp only [ugo, uwp, ust, uct, rfd, BjudgeStep, BjudgeStep_606, Nat.beq, lv_args, rlk, rs1, rs2, rdl, rky, rcd, rno, rsw, Value.category, List.filter, List.take, List.drop, List.reverse, List.reverseAux, List.cons_append, List.nil_append, Option.toList, Int.toNat, Int.reduceToNat, if_pos, if_neg, reduceIte, ↓reduceIte, Nat.reduceAdd, Nat.reduceEqDiff, Nat.reduceBEq, beq_self_eq_true, Bool.not_true, Bool.not_false, Bool.and_true, Bool.and_false, Bool.true_and, Bool.false_and, gI_sI, gI_sL, gI_sA, gI_sM, gL_sI, gL_sL, gL_sA, gL_sM, aI_sI, aI_sL, aI_sA, aI_sM, aL_sI, aL_sL, aL_sA, aL_sM]; try dsimp only
      unfold Qv_judgeStepB
      try dsimp only
      exact ⟨rfl, _, _, sr_0 (by omega), Or.inr ⟨trivial, rfl⟩⟩
    have c37 : ¬ (aI σ 19 c.toNatClampNeg).toInt = 28 := fun q => h37 ((rfl : (aI σ 19 c.toNatClampNeg).toInt = (aI σ 19 c.toNatClampNeg).toInt).trans q)
    refine ⟨fun h39 => ?_, fun h39 => ?_⟩
    · have c39 : (aI σ 19 c.toNatClampNeg).toInt = 29 := (rfl : (aI σ 19 c.toNatClampNeg).toInt = (aI σ 19 c.toNatClampNeg).toInt).symm.trans h39
      refine hB _ _ _ _ _ (fun m40 hm40 => ?_)
      dsimp only [ugo, uwp, ust, uct, rfd, BjudgeStep, BjudgeStep_606, Nat.beq, lv_args, rlk, rs1, rs2, rdl, rky, rcd, rno, rsw, Value.category, List.filter, List.take, List.drop, List.reverse, List.reverseAux, List.cons_append, List.nil_append, Option.toList, Int.toNat, Int.reduceToNat, if_pos, if_neg, reduceIte, ↓reduceIte, Nat.reduceAdd, Nat.reduceEqDiff, Nat.reduceBEq, beq_self_eq_true, Bool.not_true, Bool.not_false, Bool.and_true, Bool.and_false, Bool.true_and, Bool.false_and, gI_sI, gI_sL, gI_sA, gI_sM, gL_sI, gL_sL, gL_sA, gL_sM, aI_sI, aI_sL, aI_sA, aI_sM, aL_sI, aL_sL, aL_sA, aL_sM]; try dsimp only
      unfold Qv_judgeStepB
      try dsimp only
      exact ⟨rfl, _, _, sr_0 (by omega), Or.inr ⟨trivial, rfl⟩⟩
    have c39 : ¬ (aI σ 19 c.toNatClampNeg).toInt = 29 := fun q => h39 ((rfl : (aI σ 19 c.toNatClampNeg).toInt = (aI σ 19 c.toNatClampNeg).toInt).trans q)
    refine ⟨fun h41 => ?_, fun h41 => ?_⟩
    · have c41 : (aI σ 19 c.toNatClampNeg).toInt = 30 := (rfl : (aI σ 19 c.toNatClampNeg).toInt = (aI σ 19 c.toNatClampNeg).toInt).symm.trans h41
      refine hB _ _ _ _ _ (fun m42 hm42 => ?_)
      dsimp only [ugo, uwp, ust, uct, rfd, BjudgeStep, BjudgeStep_606, Nat.beq, lv_args, rlk, rs1, rs2, rdl, rky, rcd, rno, rsw, Value.category, List.filter, List.take, List.drop, List.reverse, List.reverseAux, List.cons_append, List.nil_append, Option.toList, Int.toNat, Int.reduceToNat, if_pos, if_neg, reduceIte, ↓reduceIte, Nat.reduceAdd, Nat.reduceEqDiff, Nat.reduceBEq, beq_self_eq_true, Bool.not_true, Bool.not_false, Bool.and_true, Bool.and_false, Bool.true_and, Bool.false_and, gI_sI, gI_sL, gI_sA, gI_sM, gL_sI, gL_sL, gL_sA, gL_sM, aI_sI, aI_sL, aI_sA, aI_sM, aL_sI, aL_sL, aL_sA, aL_sM]; try dsimp only
      unfold Qv_judgeStepB
      try dsimp only
      exact ⟨rfl, _, _, sr_0 (by omega), Or.inr ⟨trivial, rfl⟩⟩
    have c41 : ¬ (aI σ 19 c.toNatClampNeg).toInt = 30 := fun q => h41 ((rfl : (aI σ 19 c.toNatClampNeg).toInt = (aI σ 19 c.toNatClampNeg).toInt).trans q)
    refine ⟨fun h43 => ?_, fun h43 => ?_⟩
    · have c43 : (aI σ 19 c.toNatClampNeg).toInt = 31 := (rfl : (aI σ 19 c.toNatClampNeg).toInt = (aI σ 19 c.toNatClampNeg).toInt).symm.trans h43
      refine hB _ _ _ _ _ (fun m44 hm44 => ?_)
      dsimp only [ugo, uwp, ust, uct, rfd, BjudgeStep, BjudgeStep_226, Nat.beq, lv_args, rlk, rs1, rs2, rdl, rky, rcd, rno, rsw, Value.category, List.filter, List.take, List.drop, List.reverse, List.reverseAux, List.cons_append, List.nil_append, Option.toList, Int.toNat, Int.reduceToNat, if_pos, if_neg, reduceIte, ↓reduceIte, Nat.reduceAdd, Nat.reduceEqDiff, Nat.reduceBEq, beq_self_eq_true, Bool.not_true, Bool.not_false, Bool.and_true, Bool.and_false, Bool.true_and, Bool.false_and, gI_sI, gI_sL, gI_sA, gI_sM, gL_sI, gL_sL, gL_sA, gL_sM, aI_sI, aI_sL, aI_sA, aI_sM, aL_sI, aL_sL, aL_sA, aL_sM, oi_0, oi_1]; try dsimp only
      refine ⟨trivial, fun w45 τ45 hq45 => ?_⟩
      obtain ⟨hA45, b45, rfl, hb45⟩ := hq45 trivial
      rcases hb45 _ (hte (by first | omega | exact Or.inr (Or.inr (Or.inr (Or.inr (Or.inr (Or.inl ⟨by omega, by assumption⟩))))))) with ⟨rfl, rfl, hd45⟩ | ⟨rfl, hz45, hd45⟩
      · dsimp only [Option.toList, List.cons_append, List.nil_append, Nat.beq, gI_sI, gI_sL, gI_sA, gI_sM, gL_sI, gL_sL, gL_sA, gL_sM, aI_sI, aI_sL, aI_sA, aI_sM, aL_sI, aL_sL, aL_sA, aL_sM]
        have hd45 : e.1 = 0 := (nd_t (rfl)).mp hd45
        refine ⟨trivial, fun w46 τ46 hq46 => ?_⟩
        obtain ⟨rfl, u46, hu46, rfl⟩ := hq46 trivial
        dsimp only [Option.toList, List.cons_append, List.nil_append, Nat.beq, gI_sI, gI_sL, gI_sA, gI_sM, gL_sI, gL_sL, gL_sA, gL_sM, aI_sI, aI_sL, aI_sA, aI_sM, aL_sI, aL_sL, aL_sA, aL_sM]
        unfold Qv_judgeStepB
        try dsimp only
        exact ⟨rfl, _, _, sr_23 (by omega), Or.inr ⟨(by assumption : e.1 = 0), ⟨u46, hu46 e (hte (by first | omega | exact Or.inr (Or.inr (Or.inr (Or.inr (Or.inr (Or.inl ⟨by omega, by assumption⟩))))))), rfl⟩⟩⟩
      · dsimp only [Option.toList, List.cons_append, List.nil_append, Nat.beq, gI_sI, gI_sL, gI_sA, gI_sM, gL_sI, gL_sL, gL_sA, gL_sM, aI_sI, aI_sL, aI_sA, aI_sM, aL_sI, aL_sL, aL_sA, aL_sM]
        have hd45 : ¬ (e.1 = 0) := fun q => hd45 ((nd_t (rfl)).mpr q)
        refine ⟨trivial, fun w47 τ47 hq47 => ?_⟩
        obtain ⟨rfl, u47, hu47, rfl⟩ := hq47 trivial
        dsimp only [Option.toList, List.cons_append, List.nil_append, Nat.beq, gI_sI, gI_sL, gI_sA, gI_sM, gL_sI, gL_sL, gL_sA, gL_sM, aI_sI, aI_sL, aI_sA, aI_sM, aL_sI, aL_sL, aL_sA, aL_sM]
        unfold Qv_judgeStepB
        try dsimp only
        obtain ⟨ok, F, hs1, hs2⟩ : ∃ ok F, StR σ c e vt rt kt ok F ∧ ¬ ok := by exact ⟨_, _, sr_23 (by omega), fun q => absurd q (by assumption)⟩
        exact ⟨rfl, ok, F, hs1, Or.inl ⟨hs2, hz45⟩⟩
    have c43 : ¬ (aI σ 19 c.toNatClampNeg).toInt = 31 := fun q => h43 ((rfl : (aI σ 19 c.toNatClampNeg).toInt = (aI σ 19 c.toNatClampNeg).toInt).trans q)
    refine ⟨fun h48 => ?_, fun h48 => ?_⟩
    · have c48 : (aI σ 19 c.toNatClampNeg).toInt = 32 := (rfl : (aI σ 19 c.toNatClampNeg).toInt = (aI σ 19 c.toNatClampNeg).toInt).symm.trans h48
      refine hB _ _ _ _ _ (fun m49 hm49 => ?_)
      dsimp only [ugo, uwp, ust, uct, rfd, BjudgeStep, BjudgeStep_606, Nat.beq, lv_args, rlk, rs1, rs2, rdl, rky, rcd, rno, rsw, Value.category, List.filter, List.take, List.drop, List.reverse, List.reverseAux, List.cons_append, List.nil_append, Option.toList, Int.toNat, Int.reduceToNat, if_pos, if_neg, reduceIte, ↓reduceIte, Nat.reduceAdd, Nat.reduceEqDiff, Nat.reduceBEq, beq_self_eq_true, Bool.not_true, Bool.not_false, Bool.and_true, Bool.and_false, Bool.true_and, Bool.false_and, gI_sI, gI_sL, gI_sA, gI_sM, gL_sI, gL_sL, gL_sA, gL_sM, aI_sI, aI_sL, aI_sA, aI_sM, aL_sI, aL_sL, aL_sA, aL_sM]; try dsimp only
      unfold Qv_judgeStepB
      try dsimp only
      exact ⟨rfl, _, _, sr_0 (by omega), Or.inr ⟨trivial, rfl⟩⟩
    have c48 : ¬ (aI σ 19 c.toNatClampNeg).toInt = 32 := fun q => h48 ((rfl : (aI σ 19 c.toNatClampNeg).toInt = (aI σ 19 c.toNatClampNeg).toInt).trans q)
    refine ⟨fun h50 => ?_, fun h50 => ?_⟩
    · have c50 : (aI σ 19 c.toNatClampNeg).toInt = 33 := (rfl : (aI σ 19 c.toNatClampNeg).toInt = (aI σ 19 c.toNatClampNeg).toInt).symm.trans h50
      refine hB _ _ _ _ _ (fun m51 hm51 => ?_)
      dsimp only [ugo, uwp, ust, uct, rfd, BjudgeStep, BjudgeStep_253, Nat.beq, lv_args, rlk, rs1, rs2, rdl, rky, rcd, rno, rsw, Value.category, List.filter, List.take, List.drop, List.reverse, List.reverseAux, List.cons_append, List.nil_append, Option.toList, Int.toNat, Int.reduceToNat, if_pos, if_neg, reduceIte, ↓reduceIte, Nat.reduceAdd, Nat.reduceEqDiff, Nat.reduceBEq, beq_self_eq_true, Bool.not_true, Bool.not_false, Bool.and_true, Bool.and_false, Bool.true_and, Bool.false_and, gI_sI, gI_sL, gI_sA, gI_sM, gL_sI, gL_sL, gL_sA, gL_sM, aI_sI, aI_sL, aI_sA, aI_sM, aL_sI, aL_sL, aL_sA, aL_sM, oi_1]; try dsimp only
      intro p52
      intro p53
      intro p54
      refine ⟨fun h55 => ?_, fun h55 => ?_⟩
      · refine hB _ _ _ _ _ (fun m56 hm56 => ?_)
        dsimp only [ugo, uwp, ust, uct, rfd, BjudgeStep, BjudgeStep_277, Nat.beq, lv_args, rlk, rs1, rs2, rdl, rky, rcd, rno, rsw, Value.category, List.filter, List.take, List.drop, List.reverse, List.reverseAux, List.cons_append, List.nil_append, Option.toList, Int.toNat, Int.reduceToNat, if_pos, if_neg, reduceIte, ↓reduceIte, Nat.reduceAdd, Nat.reduceEqDiff, Nat.reduceBEq, beq_self_eq_true, Bool.not_true, Bool.not_false, Bool.and_true, Bool.and_false, Bool.true_and, Bool.false_and, gI_sI, gI_sL, gI_sA, gI_sM, gL_sI, gL_sL, gL_sA, gL_sM, aI_sI, aI_sL, aI_sA, aI_sM, aL_sI, aL_sL, aL_sA, aL_sM, oi_0, oi_1]; try dsimp only
        refine ⟨trivial, fun w57 τ57 hq57 => ?_⟩
        obtain ⟨hA57, b57, rfl, hb57⟩ := hq57 trivial
        rcases hb57 _ (hte (by first | omega | exact Or.inr (Or.inr (Or.inr (Or.inr (Or.inr (Or.inl ⟨by omega, by assumption⟩))))))) with ⟨rfl, rfl, hd57⟩ | ⟨rfl, hz57, hd57⟩
        · dsimp only [Option.toList, List.cons_append, List.nil_append, Nat.beq, gI_sI, gI_sL, gI_sA, gI_sM, gL_sI, gL_sL, gL_sA, gL_sM, aI_sI, aI_sL, aI_sA, aI_sM, aL_sI, aL_sL, aL_sA, aL_sM]
          have hd57 : e.1 = 0 := (nd_t (rfl)).mp hd57
          refine ⟨trivial, fun w58 τ58 hq58 => ?_⟩
          obtain ⟨rfl, u58, hu58, rfl⟩ := hq58 trivial
          dsimp only [Option.toList, List.cons_append, List.nil_append, Nat.beq, gI_sI, gI_sL, gI_sA, gI_sM, gL_sI, gL_sL, gL_sA, gL_sM, aI_sI, aI_sL, aI_sA, aI_sM, aL_sI, aL_sL, aL_sA, aL_sM]
          unfold Qv_judgeStepB
          try dsimp only
          exact ⟨rfl, _, _, sr_33b ⟨by omega, by assumption⟩, Or.inr ⟨(by assumption : e.1 = 0), ⟨u58, hu58 e (hte (by first | omega | exact Or.inr (Or.inr (Or.inr (Or.inr (Or.inr (Or.inl ⟨by omega, by assumption⟩))))))), rfl⟩⟩⟩
        · dsimp only [Option.toList, List.cons_append, List.nil_append, Nat.beq, gI_sI, gI_sL, gI_sA, gI_sM, gL_sI, gL_sL, gL_sA, gL_sM, aI_sI, aI_sL, aI_sA, aI_sM, aL_sI, aL_sL, aL_sA, aL_sM]
          have hd57 : ¬ (e.1 = 0) := fun q => hd57 ((nd_t (rfl)).mpr q)
          refine ⟨trivial, fun w59 τ59 hq59 => ?_⟩
          obtain ⟨rfl, u59, hu59, rfl⟩ := hq59 trivial
          dsimp only [Option.toList, List.cons_append, List.nil_append, Nat.beq, gI_sI, gI_sL, gI_sA, gI_sM, gL_sI, gL_sL, gL_sA, gL_sM, aI_sI, aI_sL, aI_sA, aI_sM, aL_sI, aL_sL, aL_sA, aL_sM]
          unfold Qv_judgeStepB
          try dsimp only
          obtain ⟨ok, F, hs1, hs2⟩ : ∃ ok F, StR σ c e vt rt kt ok F ∧ ¬ ok := by exact ⟨_, _, sr_33b ⟨by omega, by assumption⟩, fun q => absurd q (by assumption)⟩
          exact ⟨rfl, ok, F, hs1, Or.inl ⟨hs2, hz57⟩⟩
      · refine hB _ _ _ _ _ (fun m60 hm60 => ?_)
        dsimp only [ugo, uwp, ust, uct, rfd, BjudgeStep, BjudgeStep_276, Nat.beq, lv_args, rlk, rs1, rs2, rdl, rky, rcd, rno, rsw, Value.category, List.filter, List.take, List.drop, List.reverse, List.reverseAux, List.cons_append, List.nil_append, Option.toList, Int.toNat, Int.reduceToNat, if_pos, if_neg, reduceIte, ↓reduceIte, Nat.reduceAdd, Nat.reduceEqDiff, Nat.reduceBEq, beq_self_eq_true, Bool.not_true, Bool.not_false, Bool.and_true, Bool.and_false, Bool.true_and, Bool.false_and, gI_sI, gI_sL, gI_sA, gI_sM, gL_sI, gL_sL, gL_sA, gL_sM, aI_sI, aI_sL, aI_sA, aI_sM, aL_sI, aL_sL, aL_sA, aL_sM]; try dsimp only
        unfold Qv_judgeStepB
        try dsimp only
        exact ⟨rfl, _, _, sr_33a ⟨by omega, by assumption⟩, Or.inr ⟨trivial, rfl⟩⟩
    have c50 : ¬ (aI σ 19 c.toNatClampNeg).toInt = 33 := fun q => h50 ((rfl : (aI σ 19 c.toNatClampNeg).toInt = (aI σ 19 c.toNatClampNeg).toInt).trans q)
    refine ⟨fun h61 => ?_, fun h61 => ?_⟩
    · have c61 : (aI σ 19 c.toNatClampNeg).toInt = 34 := (rfl : (aI σ 19 c.toNatClampNeg).toInt = (aI σ 19 c.toNatClampNeg).toInt).symm.trans h61
      refine hB _ _ _ _ _ (fun m62 hm62 => ?_)
      dsimp only [ugo, uwp, ust, uct, rfd, BjudgeStep, BjudgeStep_606, Nat.beq, lv_args, rlk, rs1, rs2, rdl, rky, rcd, rno, rsw, Value.category, List.filter, List.take, List.drop, List.reverse, List.reverseAux, List.cons_append, List.nil_append, Option.toList, Int.toNat, Int.reduceToNat, if_pos, if_neg, reduceIte, ↓reduceIte, Nat.reduceAdd, Nat.reduceEqDiff, Nat.reduceBEq, beq_self_eq_true, Bool.not_true, Bool.not_false, Bool.and_true, Bool.and_false, Bool.true_and, Bool.false_and, gI_sI, gI_sL, gI_sA, gI_sM, gL_sI, gL_sL, gL_sA, gL_sM, aI_sI, aI_sL, aI_sA, aI_sM, aL_sI, aL_sL, aL_sA, aL_sM]; try dsimp only
      unfold Qv_judgeStepB
      try dsimp only
      exact ⟨rfl, _, _, sr_0 (by omega), Or.inr ⟨trivial, rfl⟩⟩
    have c61 : ¬ (aI σ 19 c.toNatClampNeg).toInt = 34 := fun q => h61 ((rfl : (aI σ 19 c.toNatClampNeg).toInt = (aI σ 19 c.toNatClampNeg).toInt).trans q)
    refine ⟨fun h63 => ?_, fun h63 => ?_⟩
    · have c63 : (aI σ 19 c.toNatClampNeg).toInt = 35 := (rfl : (aI σ 19 c.toNatClampNeg).toInt = (aI σ 19 c.toNatClampNeg).toInt).symm.trans h63
      refine hB _ _ _ _ _ (fun m64 hm64 => ?_)
      dsimp only [ugo, uwp, ust, uct, rfd, BjudgeStep, BjudgeStep_606, Nat.beq, lv_args, rlk, rs1, rs2, rdl, rky, rcd, rno, rsw, Value.category, List.filter, List.take, List.drop, List.reverse, List.reverseAux, List.cons_append, List.nil_append, Option.toList, Int.toNat, Int.reduceToNat, if_pos, if_neg, reduceIte, ↓reduceIte, Nat.reduceAdd, Nat.reduceEqDiff, Nat.reduceBEq, beq_self_eq_true, Bool.not_true, Bool.not_false, Bool.and_true, Bool.and_false, Bool.true_and, Bool.false_and, gI_sI, gI_sL, gI_sA, gI_sM, gL_sI, gL_sL, gL_sA, gL_sM, aI_sI, aI_sL, aI_sA, aI_sM, aL_sI, aL_sL, aL_sA, aL_sM]; try dsimp only
      unfold Qv_judgeStepB
      try dsimp only
      exact ⟨rfl, _, _, sr_0 (by omega), Or.inr ⟨trivial, rfl⟩⟩
    have c63 : ¬ (aI σ 19 c.toNatClampNeg).toInt = 35 := fun q => h63 ((rfl : (aI σ 19 c.toNatClampNeg).toInt = (aI σ 19 c.toNatClampNeg).toInt).trans q)
    refine ⟨fun h65 => ?_, fun h65 => ?_⟩
    · have c65 : (aI σ 19 c.toNatClampNeg).toInt = 36 := (rfl : (aI σ 19 c.toNatClampNeg).toInt = (aI σ 19 c.toNatClampNeg).toInt).symm.trans h65
      refine hB _ _ _ _ _ (fun m66 hm66 => ?_)
      dsimp only [ugo, uwp, ust, uct, rfd, BjudgeStep, BjudgeStep_606, Nat.beq, lv_args, rlk, rs1, rs2, rdl, rky, rcd, rno, rsw, Value.category, List.filter, List.take, List.drop, List.reverse, List.reverseAux, List.cons_append, List.nil_append, Option.toList, Int.toNat, Int.reduceToNat, if_pos, if_neg, reduceIte, ↓reduceIte, Nat.reduceAdd, Nat.reduceEqDiff, Nat.reduceBEq, beq_self_eq_true, Bool.not_true, Bool.not_false, Bool.and_true, Bool.and_false, Bool.true_and, Bool.false_and, gI_sI, gI_sL, gI_sA, gI_sM, gL_sI, gL_sL, gL_sA, gL_sM, aI_sI, aI_sL, aI_sA, aI_sM, aL_sI, aL_sL, aL_sA, aL_sM]; try dsimp only
      unfold Qv_judgeStepB
      try dsimp only
      exact ⟨rfl, _, _, sr_0 (by omega), Or.inr ⟨trivial, rfl⟩⟩
    have c65 : ¬ (aI σ 19 c.toNatClampNeg).toInt = 36 := fun q => h65 ((rfl : (aI σ 19 c.toNatClampNeg).toInt = (aI σ 19 c.toNatClampNeg).toInt).trans q)
    refine ⟨fun h67 => ?_, fun h67 => ?_⟩
    · have c67 : (aI σ 19 c.toNatClampNeg).toInt = 37 := (rfl : (aI σ 19 c.toNatClampNeg).toInt = (aI σ 19 c.toNatClampNeg).toInt).symm.trans h67
      refine hB _ _ _ _ _ (fun m68 hm68 => ?_)
      dsimp only [ugo, uwp, ust, uct, rfd, BjudgeStep, BjudgeStep_304, Nat.beq, lv_args, rlk, rs1, rs2, rdl, rky, rcd, rno, rsw, Value.category, List.filter, List.take, List.drop, List.reverse, List.reverseAux, List.cons_append, List.nil_append, Option.toList, Int.toNat, Int.reduceToNat, if_pos, if_neg, reduceIte, ↓reduceIte, Nat.reduceAdd, Nat.reduceEqDiff, Nat.reduceBEq, beq_self_eq_true, Bool.not_true, Bool.not_false, Bool.and_true, Bool.and_false, Bool.true_and, Bool.false_and, gI_sI, gI_sL, gI_sA, gI_sM, gL_sI, gL_sL, gL_sA, gL_sM, aI_sI, aI_sL, aI_sA, aI_sM, aL_sI, aL_sL, aL_sA, aL_sM, oi_1]; try dsimp only
      intro p69
      intro p70
      refine ⟨trivial, fun w71 τ71 hq71 => ?_⟩
      obtain ⟨rfl, b71, rfl, hb71⟩ := hq71 trivial
      obtain rfl : b71 = 0 := Classical.byContradiction (fun q => absurd (hb71.mp q) (TeR.nb (hte (by first | omega | exact Or.inr (Or.inr (Or.inr (Or.inr (Or.inr (Or.inl ⟨by omega, by assumption⟩)))))))))
      dsimp only [Option.toList, List.cons_append, List.nil_append, Nat.beq, gI_sI, gI_sL, gI_sA, gI_sM, gL_sI, gL_sL, gL_sA, gL_sM, aI_sI, aI_sL, aI_sA, aI_sM, aL_sI, aL_sL, aL_sA, aL_sM]
      refine ⟨fun h72 => absurd h72 (by decide), fun h72 => ?_⟩
      clear h72
      refine hB _ _ _ _ _ (fun m73 hm73 => ?_)
      dsimp only [ugo, uwp, ust, uct, rfd, BjudgeStep, BjudgeStep_340, Nat.beq, lv_args, rlk, rs1, rs2, rdl, rky, rcd, rno, rsw, Value.category, List.filter, List.take, List.drop, List.reverse, List.reverseAux, List.cons_append, List.nil_append, Option.toList, Int.toNat, Int.reduceToNat, if_pos, if_neg, reduceIte, ↓reduceIte, Nat.reduceAdd, Nat.reduceEqDiff, Nat.reduceBEq, beq_self_eq_true, Bool.not_true, Bool.not_false, Bool.and_true, Bool.and_false, Bool.true_and, Bool.false_and, gI_sI, gI_sL, gI_sA, gI_sM, gL_sI, gL_sL, gL_sA, gL_sM, aI_sI, aI_sL, aI_sA, aI_sM, aL_sI, aL_sL, aL_sA, aL_sM, oi_1]; try dsimp only
      intro p74
      refine ⟨fun h75 => ?_, fun h75 => ?_⟩
      · have c75 : e.1 < 1 := (cI (hte (by first | omega | exact Or.inr (Or.inr (Or.inr (Or.inr (Or.inr (Or.inl ⟨by omega, by assumption⟩))))))).1 (rfl : (1 : Int32).toInt = 1)).2.1.mp h75
        refine hB _ _ _ _ _ (fun m76 hm76 => ?_)
        dsimp only [ugo, uwp, ust, uct, rfd, BjudgeStep, BjudgeStep_366, Nat.beq, lv_args, rlk, rs1, rs2, rdl, rky, rcd, rno, rsw, Value.category, List.filter, List.take, List.drop, List.reverse, List.reverseAux, List.cons_append, List.nil_append, Option.toList, Int.toNat, Int.reduceToNat, if_pos, if_neg, reduceIte, ↓reduceIte, Nat.reduceAdd, Nat.reduceEqDiff, Nat.reduceBEq, beq_self_eq_true, Bool.not_true, Bool.not_false, Bool.and_true, Bool.and_false, Bool.true_and, Bool.false_and, gI_sI, gI_sL, gI_sA, gI_sM, gL_sI, gL_sL, gL_sA, gL_sM, aI_sI, aI_sL, aI_sA, aI_sM, aL_sI, aL_sL, aL_sA, aL_sM, oi_5, oi_m2]; try dsimp only
        intro p77
        refine ⟨trivial, fun w78 τ78 hq78 => ?_⟩
        obtain ⟨rfl, hz78⟩ := hq78 (show ¬ (5 : Int32) = 0 by decide)
        dsimp only [Option.toList, List.cons_append, List.nil_append, Nat.beq, gI_sI, gI_sL, gI_sA, gI_sM, gL_sI, gL_sL, gL_sA, gL_sM, aI_sI, aI_sL, aI_sA, aI_sM, aL_sI, aL_sL, aL_sA, aL_sM]
        intro p79
        exact hW _ 388 [(0, .ref 1000), (1, .int c), (2, .int ((aI σ 20) (c).toNatClampNeg)), (3, .int ((aI σ 22) (c).toNatClampNeg))] _ _ _ (by simp [rdl, rky, Value.category]) ((bad (by exact ⟨_, _, sr_37 (by omega), fun q => by have q1 : 1 ≤ e.1 ∧ e.1 ≤ 3 := q; omega⟩) _).2.2.2.2.2.2.2.2.2.2.2.2.2.2.2.1 c ((aI σ 20) (c).toNatClampNeg) ((aI σ 22) (c).toNatClampNeg) _ hz78)
      · have c75 : 1 ≤ e.1 := (cI (hte (by first | omega | exact Or.inr (Or.inr (Or.inr (Or.inr (Or.inr (Or.inl ⟨by omega, by assumption⟩))))))).1 (rfl : (1 : Int32).toInt = 1)).2.2.2.2.mp (by first | exact h75 | exact Int32.not_lt.mp h75 | exact Int32.not_le.mp h75)
        refine hB _ _ _ _ _ (fun m80 hm80 => ?_)
        dsimp only [ugo, uwp, ust, uct, rfd, BjudgeStep, BjudgeStep_353, Nat.beq, lv_args, rlk, rs1, rs2, rdl, rky, rcd, rno, rsw, Value.category, List.filter, List.take, List.drop, List.reverse, List.reverseAux, List.cons_append, List.nil_append, Option.toList, Int.toNat, Int.reduceToNat, if_pos, if_neg, reduceIte, ↓reduceIte, Nat.reduceAdd, Nat.reduceEqDiff, Nat.reduceBEq, beq_self_eq_true, Bool.not_true, Bool.not_false, Bool.and_true, Bool.and_false, Bool.true_and, Bool.false_and, gI_sI, gI_sL, gI_sA, gI_sM, gL_sI, gL_sL, gL_sA, gL_sM, aI_sI, aI_sL, aI_sA, aI_sM, aL_sI, aL_sL, aL_sA, aL_sM, oi_3]; try dsimp only
        intro p81
        refine ⟨fun h82 => ?_, fun h82 => ?_⟩
        · have c82 : e.1 ≤ 3 := (cI (hte (by first | omega | exact Or.inr (Or.inr (Or.inr (Or.inr (Or.inr (Or.inl ⟨by omega, by assumption⟩))))))).1 (rfl : (3 : Int32).toInt = 3)).2.2.1.mp h82
          refine hB _ _ _ _ _ (fun m83 hm83 => ?_)
          dsimp only [ugo, uwp, ust, uct, rfd, BjudgeStep, BjudgeStep_388, Nat.beq, lv_args, rlk, rs1, rs2, rdl, rky, rcd, rno, rsw, Value.category, List.filter, List.take, List.drop, List.reverse, List.reverseAux, List.cons_append, List.nil_append, Option.toList, Int.toNat, Int.reduceToNat, if_pos, if_neg, reduceIte, ↓reduceIte, Nat.reduceAdd, Nat.reduceEqDiff, Nat.reduceBEq, beq_self_eq_true, Bool.not_true, Bool.not_false, Bool.and_true, Bool.and_false, Bool.true_and, Bool.false_and, gI_sI, gI_sL, gI_sA, gI_sM, gL_sI, gL_sL, gL_sA, gL_sM, aI_sI, aI_sL, aI_sA, aI_sM, aL_sI, aL_sL, aL_sA, aL_sM]; try dsimp only
          unfold Qv_judgeStepB
          try dsimp only
          exact ⟨rfl, _, _, sr_37 (by omega), Or.inr ⟨(⟨by omega, by omega⟩ : 1 ≤ e.1 ∧ e.1 ≤ 3), rfl⟩⟩
        · have c82 : 3 < e.1 := (cI (hte (by first | omega | exact Or.inr (Or.inr (Or.inr (Or.inr (Or.inr (Or.inl ⟨by omega, by assumption⟩))))))).1 (rfl : (3 : Int32).toInt = 3)).2.2.2.1.mp (by first | exact h82 | exact Int32.not_lt.mp h82 | exact Int32.not_le.mp h82)
          refine hB _ _ _ _ _ (fun m84 hm84 => ?_)
          dsimp only [ugo, uwp, ust, uct, rfd, BjudgeStep, BjudgeStep_366, Nat.beq, lv_args, rlk, rs1, rs2, rdl, rky, rcd, rno, rsw, Value.category, List.filter, List.take, List.drop, List.reverse, List.reverseAux, List.cons_append, List.nil_append, Option.toList, Int.toNat, Int.reduceToNat, if_pos, if_neg, reduceIte, ↓reduceIte, Nat.reduceAdd, Nat.reduceEqDiff, Nat.reduceBEq, beq_self_eq_true, Bool.not_true, Bool.not_false, Bool.and_true, Bool.and_false, Bool.true_and, Bool.false_and, gI_sI, gI_sL, gI_sA, gI_sM, gL_sI, gL_sL, gL_sA, gL_sM, aI_sI, aI_sL, aI_sA, aI_sM, aL_sI, aL_sL, aL_sA, aL_sM, oi_5, oi_m2]; try dsimp only
          intro p85
          refine ⟨trivial, fun w86 τ86 hq86 => ?_⟩
          obtain ⟨rfl, hz86⟩ := hq86 (show ¬ (5 : Int32) = 0 by decide)
          dsimp only [Option.toList, List.cons_append, List.nil_append, Nat.beq, gI_sI, gI_sL, gI_sA, gI_sM, gL_sI, gL_sL, gL_sA, gL_sM, aI_sI, aI_sL, aI_sA, aI_sM, aL_sI, aL_sL, aL_sA, aL_sM]
          intro p87
          exact hW _ 388 [(0, .ref 1000), (1, .int c), (2, .int ((aI σ 20) (c).toNatClampNeg)), (3, .int ((aI σ 22) (c).toNatClampNeg))] _ _ _ (by simp [rdl, rky, Value.category]) ((bad (by exact ⟨_, _, sr_37 (by omega), fun q => by have q1 : 1 ≤ e.1 ∧ e.1 ≤ 3 := q; omega⟩) _).2.2.2.2.2.2.2.2.2.2.2.2.2.2.2.1 c ((aI σ 20) (c).toNatClampNeg) ((aI σ 22) (c).toNatClampNeg) _ hz86)
    have c67 : ¬ (aI σ 19 c.toNatClampNeg).toInt = 37 := fun q => h67 ((rfl : (aI σ 19 c.toNatClampNeg).toInt = (aI σ 19 c.toNatClampNeg).toInt).trans q)
    refine ⟨fun h88 => ?_, fun h88 => ?_⟩
    · have c88 : (aI σ 19 c.toNatClampNeg).toInt = 38 := (rfl : (aI σ 19 c.toNatClampNeg).toInt = (aI σ 19 c.toNatClampNeg).toInt).symm.trans h88
      refine hB _ _ _ _ _ (fun m89 hm89 => ?_)
      dsimp only [ugo, uwp, ust, uct, rfd, BjudgeStep, BjudgeStep_389, Nat.beq, lv_args, rlk, rs1, rs2, rdl, rky, rcd, rno, rsw, Value.category, List.filter, List.take, List.drop, List.reverse, List.reverseAux, List.cons_append, List.nil_append, Option.toList, Int.toNat, Int.reduceToNat, if_pos, if_neg, reduceIte, ↓reduceIte, Nat.reduceAdd, Nat.reduceEqDiff, Nat.reduceBEq, beq_self_eq_true, Bool.not_true, Bool.not_false, Bool.and_true, Bool.and_false, Bool.true_and, Bool.false_and, gI_sI, gI_sL, gI_sA, gI_sM, gL_sI, gL_sL, gL_sA, gL_sM, aI_sI, aI_sL, aI_sA, aI_sM, aL_sI, aL_sL, aL_sA, aL_sM]; try dsimp only
      refine ⟨trivial, fun w90 τ90 hq90 => ?_⟩
      obtain ⟨rfl, hJ90⟩ := hq90.2 e kt ⟨hE, hte (by omega), (hcs (by omega)).1, (hcs (by omega)).2.1, (hcs (by omega)).2.2.1, (hcs (by omega)).2.2.2⟩
      dsimp only [Option.toList, List.cons_append, List.nil_append, Nat.beq, gI_sI, gI_sL, gI_sA, gI_sM, gL_sI, gL_sL, gL_sA, gL_sM, aI_sI, aI_sL, aI_sA, aI_sM, aL_sI, aL_sL, aL_sA, aL_sM]
      unfold Qv_judgeStepB
      try dsimp only
      rcases hJ90 with ⟨q1, q2⟩ | ⟨q1, q2⟩
      · exact ⟨rfl, _, _, sr_38 (by omega), Or.inl ⟨q1, q2⟩⟩
      · exact ⟨rfl, _, _, sr_38 (by omega), Or.inr ⟨q1, q2⟩⟩
    have c88 : ¬ (aI σ 19 c.toNatClampNeg).toInt = 38 := fun q => h88 ((rfl : (aI σ 19 c.toNatClampNeg).toInt = (aI σ 19 c.toNatClampNeg).toInt).trans q)
    refine ⟨fun h91 => ?_, fun h91 => ?_⟩
    · have c91 : (aI σ 19 c.toNatClampNeg).toInt = 39 := (rfl : (aI σ 19 c.toNatClampNeg).toInt = (aI σ 19 c.toNatClampNeg).toInt).symm.trans h91
      refine hB _ _ _ _ _ (fun m92 hm92 => ?_)
      dsimp only [ugo, uwp, ust, uct, rfd, BjudgeStep, BjudgeStep_396, Nat.beq, lv_args, rlk, rs1, rs2, rdl, rky, rcd, rno, rsw, Value.category, List.filter, List.take, List.drop, List.reverse, List.reverseAux, List.cons_append, List.nil_append, Option.toList, Int.toNat, Int.reduceToNat, if_pos, if_neg, reduceIte, ↓reduceIte, Nat.reduceAdd, Nat.reduceEqDiff, Nat.reduceBEq, beq_self_eq_true, Bool.not_true, Bool.not_false, Bool.and_true, Bool.and_false, Bool.true_and, Bool.false_and, gI_sI, gI_sL, gI_sA, gI_sM, gL_sI, gL_sL, gL_sA, gL_sM, aI_sI, aI_sL, aI_sA, aI_sM, aL_sI, aL_sL, aL_sA, aL_sM]; try dsimp only
      intro p93
      refine ⟨fun h94 => ?_, fun h94 => ?_⟩
      · refine hB _ _ _ _ _ (fun m95 hm95 => ?_)
        dsimp only [ugo, uwp, ust, uct, rfd, BjudgeStep, BjudgeStep_415, Nat.beq, lv_args, rlk, rs1, rs2, rdl, rky, rcd, rno, rsw, Value.category, List.filter, List.take, List.drop, List.reverse, List.reverseAux, List.cons_append, List.nil_append, Option.toList, Int.toNat, Int.reduceToNat, if_pos, if_neg, reduceIte, ↓reduceIte, Nat.reduceAdd, Nat.reduceEqDiff, Nat.reduceBEq, beq_self_eq_true, Bool.not_true, Bool.not_false, Bool.and_true, Bool.and_false, Bool.true_and, Bool.false_and, gI_sI, gI_sL, gI_sA, gI_sM, gL_sI, gL_sL, gL_sA, gL_sM, aI_sI, aI_sL, aI_sA, aI_sM, aL_sI, aL_sL, aL_sA, aL_sM]; try dsimp only
        intro p96
        refine hB _ _ _ _ _ (fun m97 hm97 => ?_)
        dsimp only [ugo, uwp, ust, uct, rfd, BjudgeStep, BjudgeStep_422, Nat.beq, lv_args, rlk, rs1, rs2, rdl, rky, rcd, rno, rsw, Value.category, List.filter, List.take, List.drop, List.reverse, List.reverseAux, List.cons_append, List.nil_append, Option.toList, Int.toNat, Int.reduceToNat, if_pos, if_neg, reduceIte, ↓reduceIte, Nat.reduceAdd, Nat.reduceEqDiff, Nat.reduceBEq, beq_self_eq_true, Bool.not_true, Bool.not_false, Bool.and_true, Bool.and_false, Bool.true_and, Bool.false_and, gI_sI, gI_sL, gI_sA, gI_sM, gL_sI, gL_sL, gL_sA, gL_sM, aI_sI, aI_sL, aI_sA, aI_sM, aL_sI, aL_sL, aL_sA, aL_sM]; try dsimp only
        unfold Qv_judgeStepB
        try dsimp only
        exact ⟨rfl, _, _, sr_39 (by omega), Or.inr ⟨(by assumption), rfl⟩⟩
      · refine hB _ _ _ _ _ (fun m98 hm98 => ?_)
        dsimp only [ugo, uwp, ust, uct, rfd, BjudgeStep, BjudgeStep_405, Nat.beq, lv_args, rlk, rs1, rs2, rdl, rky, rcd, rno, rsw, Value.category, List.filter, List.take, List.drop, List.reverse, List.reverseAux, List.cons_append, List.nil_append, Option.toList, Int.toNat, Int.reduceToNat, if_pos, if_neg, reduceIte, ↓reduceIte, Nat.reduceAdd, Nat.reduceEqDiff, Nat.reduceBEq, beq_self_eq_true, Bool.not_true, Bool.not_false, Bool.and_true, Bool.and_false, Bool.true_and, Bool.false_and, gI_sI, gI_sL, gI_sA, gI_sM, gL_sI, gL_sL, gL_sA, gL_sM, aI_sI, aI_sL, aI_sA, aI_sM, aL_sI, aL_sL, aL_sA, aL_sM, oi_8]; try dsimp only
        refine ⟨trivial, fun w99 τ99 hq99 => ?_⟩
        obtain ⟨rfl, hz99⟩ := hq99 (show ¬ (8 : Int32) = 0 by decide)
        dsimp only [Option.toList, List.cons_append, List.nil_append, Nat.beq, gI_sI, gI_sL, gI_sA, gI_sM, gL_sI, gL_sL, gL_sA, gL_sM, aI_sI, aI_sL, aI_sA, aI_sM, aL_sI, aL_sL, aL_sA, aL_sM]
        exact hW _ 422 [(0, .ref 1000), (1, .int c), (2, .int ((aI σ 20) (c).toNatClampNeg)), (3, .int ((aI σ 22) (c).toNatClampNeg))] _ _ _ (by simp [rdl, rky, Value.category]) ((bad (by exact ⟨_, _, sr_39 (by omega), fun q => by have q1 : aI σ 59 (aI σ 20 c.toNatClampNeg).toNatClampNeg < 0 := q; lia⟩) _).2.2.2.2.2.2.2.2.2.2.2.2.2.2.2.2.2.2.2.2.1 c ((aI σ 20) (c).toNatClampNeg) ((aI σ 22) (c).toNatClampNeg) _ hz99)
    have c91 : ¬ (aI σ 19 c.toNatClampNeg).toInt = 39 := fun q => h91 ((rfl : (aI σ 19 c.toNatClampNeg).toInt = (aI σ 19 c.toNatClampNeg).toInt).trans q)
    refine ⟨fun h100 => ?_, fun h100 => ?_⟩
    · have c100 : (aI σ 19 c.toNatClampNeg).toInt = 40 := (rfl : (aI σ 19 c.toNatClampNeg).toInt = (aI σ 19 c.toNatClampNeg).toInt).symm.trans h100
      refine hB _ _ _ _ _ (fun m101 hm101 => ?_)
      dsimp only [ugo, uwp, ust, uct, rfd, BjudgeStep, BjudgeStep_606, Nat.beq, lv_args, rlk, rs1, rs2, rdl, rky, rcd, rno, rsw, Value.category, List.filter, List.take, List.drop, List.reverse, List.reverseAux, List.cons_append, List.nil_append, Option.toList, Int.toNat, Int.reduceToNat, if_pos, if_neg, reduceIte, ↓reduceIte, Nat.reduceAdd, Nat.reduceEqDiff, Nat.reduceBEq, beq_self_eq_true, Bool.not_true, Bool.not_false, Bool.and_true, Bool.and_false, Bool.true_and, Bool.false_and, gI_sI, gI_sL, gI_sA, gI_sM, gL_sI, gL_sL, gL_sA, gL_sM, aI_sI, aI_sL, aI_sA, aI_sM, aL_sI, aL_sL, aL_sA, aL_sM]; try dsimp only
      unfold Qv_judgeStepB
      try dsimp only
      exact ⟨rfl, _, _, sr_0 (by omega), Or.inr ⟨trivial, rfl⟩⟩
    have c100 : ¬ (aI σ 19 c.toNatClampNeg).toInt = 40 := fun q => h100 ((rfl : (aI σ 19 c.toNatClampNeg).toInt = (aI σ 19 c.toNatClampNeg).toInt).trans q)
    refine ⟨fun h102 => ?_, fun h102 => ?_⟩
    · have c102 : (aI σ 19 c.toNatClampNeg).toInt = 41 := (rfl : (aI σ 19 c.toNatClampNeg).toInt = (aI σ 19 c.toNatClampNeg).toInt).symm.trans h102
      refine hB _ _ _ _ _ (fun m103 hm103 => ?_)
      dsimp only [ugo, uwp, ust, uct, rfd, BjudgeStep, BjudgeStep_423, Nat.beq, lv_args, rlk, rs1, rs2, rdl, rky, rcd, rno, rsw, Value.category, List.filter, List.take, List.drop, List.reverse, List.reverseAux, List.cons_append, List.nil_append, Option.toList, Int.toNat, Int.reduceToNat, if_pos, if_neg, reduceIte, ↓reduceIte, Nat.reduceAdd, Nat.reduceEqDiff, Nat.reduceBEq, beq_self_eq_true, Bool.not_true, Bool.not_false, Bool.and_true, Bool.and_false, Bool.true_and, Bool.false_and, gI_sI, gI_sL, gI_sA, gI_sM, gL_sI, gL_sL, gL_sA, gL_sM, aI_sI, aI_sL, aI_sA, aI_sM, aL_sI, aL_sL, aL_sA, aL_sM, oi_0, oi_200]; try dsimp only
      intro p104
      exact hW _ 435 [(0, .ref 1000), (1, .int c), (2, .int ((aI σ 20) (c).toNatClampNeg)), (3, .int ((aI σ 22) (c).toNatClampNeg)), (6, .int 0)] _ _ _ (by simp [rdl, rky, Value.category]) (l435 (by omega) _ 0 (Int.le_refl _) (fun u h1 h2 => absurd h2 (by show ¬ u.toInt < 0; omega)))
    have c102 : ¬ (aI σ 19 c.toNatClampNeg).toInt = 41 := fun q => h102 ((rfl : (aI σ 19 c.toNatClampNeg).toInt = (aI σ 19 c.toNatClampNeg).toInt).trans q)
    refine ⟨fun h105 => ?_, fun h105 => ?_⟩
    · have c105 : (aI σ 19 c.toNatClampNeg).toInt = 42 := (rfl : (aI σ 19 c.toNatClampNeg).toInt = (aI σ 19 c.toNatClampNeg).toInt).symm.trans h105
      refine hB _ _ _ _ _ (fun m106 hm106 => ?_)
      dsimp only [ugo, uwp, ust, uct, rfd, BjudgeStep, BjudgeStep_498, Nat.beq, lv_args, rlk, rs1, rs2, rdl, rky, rcd, rno, rsw, Value.category, List.filter, List.take, List.drop, List.reverse, List.reverseAux, List.cons_append, List.nil_append, Option.toList, Int.toNat, Int.reduceToNat, if_pos, if_neg, reduceIte, ↓reduceIte, Nat.reduceAdd, Nat.reduceEqDiff, Nat.reduceBEq, beq_self_eq_true, Bool.not_true, Bool.not_false, Bool.and_true, Bool.and_false, Bool.true_and, Bool.false_and, gI_sI, gI_sL, gI_sA, gI_sM, gL_sI, gL_sL, gL_sA, gL_sM, aI_sI, aI_sL, aI_sA, aI_sM, aL_sI, aL_sL, aL_sA, aL_sM, oi_1]; try dsimp only
      unfold Qv_judgeStepB
      try dsimp only
      exact ⟨rfl, _, _, sr_42 (by omega), Or.inr ⟨trivial, rfl⟩⟩
    have c105 : ¬ (aI σ 19 c.toNatClampNeg).toInt = 42 := fun q => h105 ((rfl : (aI σ 19 c.toNatClampNeg).toInt = (aI σ 19 c.toNatClampNeg).toInt).trans q)
    refine ⟨fun h107 => ?_, fun h107 => ?_⟩
    · have c107 : (aI σ 19 c.toNatClampNeg).toInt = 43 := (rfl : (aI σ 19 c.toNatClampNeg).toInt = (aI σ 19 c.toNatClampNeg).toInt).symm.trans h107
      refine hB _ _ _ _ _ (fun m108 hm108 => ?_)
      dsimp only [ugo, uwp, ust, uct, rfd, BjudgeStep, BjudgeStep_606, Nat.beq, lv_args, rlk, rs1, rs2, rdl, rky, rcd, rno, rsw, Value.category, List.filter, List.take, List.drop, List.reverse, List.reverseAux, List.cons_append, List.nil_append, Option.toList, Int.toNat, Int.reduceToNat, if_pos, if_neg, reduceIte, ↓reduceIte, Nat.reduceAdd, Nat.reduceEqDiff, Nat.reduceBEq, beq_self_eq_true, Bool.not_true, Bool.not_false, Bool.and_true, Bool.and_false, Bool.true_and, Bool.false_and, gI_sI, gI_sL, gI_sA, gI_sM, gL_sI, gL_sL, gL_sA, gL_sM, aI_sI, aI_sL, aI_sA, aI_sM, aL_sI, aL_sL, aL_sA, aL_sM]; try dsimp only
      unfold Qv_judgeStepB
      try dsimp only
      exact ⟨rfl, _, _, sr_0 (by omega), Or.inr ⟨trivial, rfl⟩⟩
    have c107 : ¬ (aI σ 19 c.toNatClampNeg).toInt = 43 := fun q => h107 ((rfl : (aI σ 19 c.toNatClampNeg).toInt = (aI σ 19 c.toNatClampNeg).toInt).trans q)
    refine ⟨fun h109 => ?_, fun h109 => ?_⟩
    · have c109 : (aI σ 19 c.toNatClampNeg).toInt = 44 := (rfl : (aI σ 19 c.toNatClampNeg).toInt = (aI σ 19 c.toNatClampNeg).toInt).symm.trans h109
      refine hB _ _ _ _ _ (fun m110 hm110 => ?_)
      dsimp only [ugo, uwp, ust, uct, rfd, BjudgeStep, BjudgeStep_606, Nat.beq, lv_args, rlk, rs1, rs2, rdl, rky, rcd, rno, rsw, Value.category, List.filter, List.take, List.drop, List.reverse, List.reverseAux, List.cons_append, List.nil_append, Option.toList, Int.toNat, Int.reduceToNat, if_pos, if_neg, reduceIte, ↓reduceIte, Nat.reduceAdd, Nat.reduceEqDiff, Nat.reduceBEq, beq_self_eq_true, Bool.not_true, Bool.not_false, Bool.and_true, Bool.and_false, Bool.true_and, Bool.false_and, gI_sI, gI_sL, gI_sA, gI_sM, gL_sI, gL_sL, gL_sA, gL_sM, aI_sI, aI_sL, aI_sA, aI_sM, aL_sI, aL_sL, aL_sA, aL_sM]; try dsimp only
      unfold Qv_judgeStepB
      try dsimp only
      exact ⟨rfl, _, _, sr_0 (by omega), Or.inr ⟨trivial, rfl⟩⟩
    have c109 : ¬ (aI σ 19 c.toNatClampNeg).toInt = 44 := fun q => h109 ((rfl : (aI σ 19 c.toNatClampNeg).toInt = (aI σ 19 c.toNatClampNeg).toInt).trans q)
    refine ⟨fun h111 => ?_, fun h111 => ?_⟩
    · have c111 : (aI σ 19 c.toNatClampNeg).toInt = 45 := (rfl : (aI σ 19 c.toNatClampNeg).toInt = (aI σ 19 c.toNatClampNeg).toInt).symm.trans h111
      refine hB _ _ _ _ _ (fun m112 hm112 => ?_)
      dsimp only [ugo, uwp, ust, uct, rfd, BjudgeStep, BjudgeStep_606, Nat.beq, lv_args, rlk, rs1, rs2, rdl, rky, rcd, rno, rsw, Value.category, List.filter, List.take, List.drop, List.reverse, List.reverseAux, List.cons_append, List.nil_append, Option.toList, Int.toNat, Int.reduceToNat, if_pos, if_neg, reduceIte, ↓reduceIte, Nat.reduceAdd, Nat.reduceEqDiff, Nat.reduceBEq, beq_self_eq_true, Bool.not_true, Bool.not_false, Bool.and_true, Bool.and_false, Bool.true_and, Bool.false_and, gI_sI, gI_sL, gI_sA, gI_sM, gL_sI, gL_sL, gL_sA, gL_sM, aI_sI, aI_sL, aI_sA, aI_sM, aL_sI, aL_sL, aL_sA, aL_sM]; try dsimp only
      unfold Qv_judgeStepB
      try dsimp only
      exact ⟨rfl, _, _, sr_0 (by omega), Or.inr ⟨trivial, rfl⟩⟩
    have c111 : ¬ (aI σ 19 c.toNatClampNeg).toInt = 45 := fun q => h111 ((rfl : (aI σ 19 c.toNatClampNeg).toInt = (aI σ 19 c.toNatClampNeg).toInt).trans q)
    refine ⟨fun h113 => ?_, fun h113 => ?_⟩
    · have c113 : (aI σ 19 c.toNatClampNeg).toInt = 46 := (rfl : (aI σ 19 c.toNatClampNeg).toInt = (aI σ 19 c.toNatClampNeg).toInt).symm.trans h113
      refine hB _ _ _ _ _ (fun m114 hm114 => ?_)
      dsimp only [ugo, uwp, ust, uct, rfd, BjudgeStep, BjudgeStep_509, Nat.beq, lv_args, rlk, rs1, rs2, rdl, rky, rcd, rno, rsw, Value.category, List.filter, List.take, List.drop, List.reverse, List.reverseAux, List.cons_append, List.nil_append, Option.toList, Int.toNat, Int.reduceToNat, if_pos, if_neg, reduceIte, ↓reduceIte, Nat.reduceAdd, Nat.reduceEqDiff, Nat.reduceBEq, beq_self_eq_true, Bool.not_true, Bool.not_false, Bool.and_true, Bool.and_false, Bool.true_and, Bool.false_and, gI_sI, gI_sL, gI_sA, gI_sM, gL_sI, gL_sL, gL_sA, gL_sM, aI_sI, aI_sL, aI_sA, aI_sM, aL_sI, aL_sL, aL_sA, aL_sM, oi_1]; try dsimp only
      intro p115
      refine ⟨fun h116 => ?_, fun h116 => ?_⟩
      · refine hB _ _ _ _ _ (fun m117 hm117 => ?_)
        dsimp only [ugo, uwp, ust, uct, rfd, BjudgeStep, BjudgeStep_528, Nat.beq, lv_args, rlk, rs1, rs2, rdl, rky, rcd, rno, rsw, Value.category, List.filter, List.take, List.drop, List.reverse, List.reverseAux, List.cons_append, List.nil_append, Option.toList, Int.toNat, Int.reduceToNat, if_pos, if_neg, reduceIte, ↓reduceIte, Nat.reduceAdd, Nat.reduceEqDiff, Nat.reduceBEq, beq_self_eq_true, Bool.not_true, Bool.not_false, Bool.and_true, Bool.and_false, Bool.true_and, Bool.false_and, gI_sI, gI_sL, gI_sA, gI_sM, gL_sI, gL_sL, gL_sA, gL_sM, aI_sI, aI_sL, aI_sA, aI_sM, aL_sI, aL_sL, aL_sA, aL_sM]; try dsimp only
        refine ⟨fun h118 => ?_, fun h118 => ?_⟩
        · refine hB _ _ _ _ _ (fun m119 hm119 => ?_)
          dsimp only [ugo, uwp, ust, uct, rfd, BjudgeStep, BjudgeStep_539, Nat.beq, lv_args, rlk, rs1, rs2, rdl, rky, rcd, rno, rsw, Value.category, List.filter, List.take, List.drop, List.reverse, List.reverseAux, List.cons_append, List.nil_append, Option.toList, Int.toNat, Int.reduceToNat, if_pos, if_neg, reduceIte, ↓reduceIte, Nat.reduceAdd, Nat.reduceEqDiff, Nat.reduceBEq, beq_self_eq_true, Bool.not_true, Bool.not_false, Bool.and_true, Bool.and_false, Bool.true_and, Bool.false_and, gI_sI, gI_sL, gI_sA, gI_sM, gL_sI, gL_sL, gL_sA, gL_sM, aI_sI, aI_sL, aI_sA, aI_sM, aL_sI, aL_sL, aL_sA, aL_sM]; try dsimp only
          unfold Qv_judgeStepB
          try dsimp only
          exact ⟨rfl, _, _, sr_46 (by omega), Or.inr ⟨(show 0 ≤ (aI σ 20 c.toNatClampNeg) by lia), ⟨fun q => absurd q (by assumption), fun _ => rfl⟩⟩⟩
        · refine hB _ _ _ _ _ (fun m120 hm120 => ?_)
          dsimp only [ugo, uwp, ust, uct, rfd, BjudgeStep, BjudgeStep_532, Nat.beq, lv_args, rlk, rs1, rs2, rdl, rky, rcd, rno, rsw, Value.category, List.filter, List.take, List.drop, List.reverse, List.reverseAux, List.cons_append, List.nil_append, Option.toList, Int.toNat, Int.reduceToNat, if_pos, if_neg, reduceIte, ↓reduceIte, Nat.reduceAdd, Nat.reduceEqDiff, Nat.reduceBEq, beq_self_eq_true, Bool.not_true, Bool.not_false, Bool.and_true, Bool.and_false, Bool.true_and, Bool.false_and, gI_sI, gI_sL, gI_sA, gI_sM, gL_sI, gL_sL, gL_sA, gL_sM, aI_sI, aI_sL, aI_sA, aI_sM, aL_sI, aL_sL, aL_sA, aL_sM, oi_9]; try dsimp only
          refine ⟨trivial, fun w121 τ121 hq121 => ?_⟩
          obtain ⟨rfl, hz121⟩ := hq121 (show ¬ (9 : Int32) = 0 by decide)
          dsimp only [Option.toList, List.cons_append, List.nil_append, Nat.beq, gI_sI, gI_sL, gI_sA, gI_sM, gL_sI, gL_sL, gL_sA, gL_sM, aI_sI, aI_sL, aI_sA, aI_sM, aL_sI, aL_sL, aL_sA, aL_sM]
          exact hW _ 539 [(0, .ref 1000), (1, .int c), (2, .int ((aI σ 20) (c).toNatClampNeg)), (3, .int ((aI σ 22) (c).toNatClampNeg))] _ _ _ (by simp [rdl, rky, Value.category]) ((bad (by exact ⟨_, _, sr_46 (by omega), fun q => by have q1 : 0 ≤ (aI σ 20 c.toNatClampNeg) := q; lia⟩) _).2.2.2.2.2.2.2.2.2.2.2.2.2.2.2.2.2.2.2.2.2.2.2.2.2.2.2.2.2.2.2.2.1 c ((aI σ 20) (c).toNatClampNeg) ((aI σ 22) (c).toNatClampNeg) _ hz121)
      · refine hB _ _ _ _ _ (fun m122 hm122 => ?_)
        dsimp only [ugo, uwp, ust, uct, rfd, BjudgeStep, BjudgeStep_519, Nat.beq, lv_args, rlk, rs1, rs2, rdl, rky, rcd, rno, rsw, Value.category, List.filter, List.take, List.drop, List.reverse, List.reverseAux, List.cons_append, List.nil_append, Option.toList, Int.toNat, Int.reduceToNat, if_pos, if_neg, reduceIte, ↓reduceIte, Nat.reduceAdd, Nat.reduceEqDiff, Nat.reduceBEq, beq_self_eq_true, Bool.not_true, Bool.not_false, Bool.and_true, Bool.and_false, Bool.true_and, Bool.false_and, gI_sI, gI_sL, gI_sA, gI_sM, gL_sI, gL_sL, gL_sA, gL_sM, aI_sI, aI_sL, aI_sA, aI_sM, aL_sI, aL_sL, aL_sA, aL_sM, oi_200]; try dsimp only
        intro p123
        refine hB _ _ _ _ _ (fun m124 hm124 => ?_)
        dsimp only [ugo, uwp, ust, uct, rfd, BjudgeStep, BjudgeStep_528, Nat.beq, lv_args, rlk, rs1, rs2, rdl, rky, rcd, rno, rsw, Value.category, List.filter, List.take, List.drop, List.reverse, List.reverseAux, List.cons_append, List.nil_append, Option.toList, Int.toNat, Int.reduceToNat, if_pos, if_neg, reduceIte, ↓reduceIte, Nat.reduceAdd, Nat.reduceEqDiff, Nat.reduceBEq, beq_self_eq_true, Bool.not_true, Bool.not_false, Bool.and_true, Bool.and_false, Bool.true_and, Bool.false_and, gI_sI, gI_sL, gI_sA, gI_sM, gL_sI, gL_sL, gL_sA, gL_sM, aI_sI, aI_sL, aI_sA, aI_sM, aL_sI, aL_sL, aL_sA, aL_sM]; try dsimp only
        refine ⟨fun h125 => ?_, fun h125 => ?_⟩
        · refine hB _ _ _ _ _ (fun m126 hm126 => ?_)
          dsimp only [ugo, uwp, ust, uct, rfd, BjudgeStep, BjudgeStep_539, Nat.beq, lv_args, rlk, rs1, rs2, rdl, rky, rcd, rno, rsw, Value.category, List.filter, List.take, List.drop, List.reverse, List.reverseAux, List.cons_append, List.nil_append, Option.toList, Int.toNat, Int.reduceToNat, if_pos, if_neg, reduceIte, ↓reduceIte, Nat.reduceAdd, Nat.reduceEqDiff, Nat.reduceBEq, beq_self_eq_true, Bool.not_true, Bool.not_false, Bool.and_true, Bool.and_false, Bool.true_and, Bool.false_and, gI_sI, gI_sL, gI_sA, gI_sM, gL_sI, gL_sL, gL_sA, gL_sM, aI_sI, aI_sL, aI_sA, aI_sM, aL_sI, aL_sL, aL_sA, aL_sM]; try dsimp only
          unfold Qv_judgeStepB
          try dsimp only
          exact ⟨rfl, _, _, sr_46 (by omega), Or.inr ⟨(show 0 ≤ (aI σ 20 c.toNatClampNeg) by lia), ⟨fun _ => rfl, fun q => absurd (by assumption) q⟩⟩⟩
        · refine hB _ _ _ _ _ (fun m127 hm127 => ?_)
          dsimp only [ugo, uwp, ust, uct, rfd, BjudgeStep, BjudgeStep_532, Nat.beq, lv_args, rlk, rs1, rs2, rdl, rky, rcd, rno, rsw, Value.category, List.filter, List.take, List.drop, List.reverse, List.reverseAux, List.cons_append, List.nil_append, Option.toList, Int.toNat, Int.reduceToNat, if_pos, if_neg, reduceIte, ↓reduceIte, Nat.reduceAdd, Nat.reduceEqDiff, Nat.reduceBEq, beq_self_eq_true, Bool.not_true, Bool.not_false, Bool.and_true, Bool.and_false, Bool.true_and, Bool.false_and, gI_sI, gI_sL, gI_sA, gI_sM, gL_sI, gL_sL, gL_sA, gL_sM, aI_sI, aI_sL, aI_sA, aI_sM, aL_sI, aL_sL, aL_sA, aL_sM, oi_9]; try dsimp only
          refine ⟨trivial, fun w128 τ128 hq128 => ?_⟩
          obtain ⟨rfl, hz128⟩ := hq128 (show ¬ (9 : Int32) = 0 by decide)
          dsimp only [Option.toList, List.cons_append, List.nil_append, Nat.beq, gI_sI, gI_sL, gI_sA, gI_sM, gL_sI, gL_sL, gL_sA, gL_sM, aI_sI, aI_sL, aI_sA, aI_sM, aL_sI, aL_sL, aL_sA, aL_sM]
          exact hW _ 539 [(0, .ref 1000), (1, .int c), (2, .int ((aI σ 20) (c).toNatClampNeg)), (3, .int ((aI σ 22) (c).toNatClampNeg))] _ _ _ (by simp [rdl, rky, Value.category]) ((bad (by exact ⟨_, _, sr_46 (by omega), fun q => by have q1 : 0 ≤ (aI σ 20 c.toNatClampNeg) := q; lia⟩) _).2.2.2.2.2.2.2.2.2.2.2.2.2.2.2.2.2.2.2.2.2.2.2.2.2.2.2.2.2.2.2.2.1 c ((aI σ 20) (c).toNatClampNeg) ((aI σ 22) (c).toNatClampNeg) _ hz128)
    have c113 : ¬ (aI σ 19 c.toNatClampNeg).toInt = 46 := fun q => h113 ((rfl : (aI σ 19 c.toNatClampNeg).toInt = (aI σ 19 c.toNatClampNeg).toInt).trans q)
    refine ⟨fun h129 => ?_, fun h129 => ?_⟩
    · have c129 : (aI σ 19 c.toNatClampNeg).toInt = 47 := (rfl : (aI σ 19 c.toNatClampNeg).toInt = (aI σ 19 c.toNatClampNeg).toInt).symm.trans h129
      refine hB _ _ _ _ _ (fun m130 hm130 => ?_)
      dsimp only [ugo, uwp, ust, uct, rfd, BjudgeStep, BjudgeStep_509, Nat.beq, lv_args, rlk, rs1, rs2, rdl, rky, rcd, rno, rsw, Value.category, List.filter, List.take, List.drop, List.reverse, List.reverseAux, List.cons_append, List.nil_append, Option.toList, Int.toNat, Int.reduceToNat, if_pos, if_neg, reduceIte, ↓reduceIte, Nat.reduceAdd, Nat.reduceEqDiff, Nat.reduceBEq, beq_self_eq_true, Bool.not_true, Bool.not_false, Bool.and_true, Bool.and_false, Bool.true_and, Bool.false_and, gI_sI, gI_sL, gI_sA, gI_sM, gL_sI, gL_sL, gL_sA, gL_sM, aI_sI, aI_sL, aI_sA, aI_sM, aL_sI, aL_sL, aL_sA, aL_sM, oi_1]; try dsimp only
      intro p131
      refine ⟨fun h132 => ?_, fun h132 => ?_⟩
      · refine hB _ _ _ _ _ (fun m133 hm133 => ?_)
        dsimp only [ugo, uwp, ust, uct, rfd, BjudgeStep, BjudgeStep_528, Nat.beq, lv_args, rlk, rs1, rs2, rdl, rky, rcd, rno, rsw, Value.category, List.filter, List.take, List.drop, List.reverse, List.reverseAux, List.cons_append, List.nil_append, Option.toList, Int.toNat, Int.reduceToNat, if_pos, if_neg, reduceIte, ↓reduceIte, Nat.reduceAdd, Nat.reduceEqDiff, Nat.reduceBEq, beq_self_eq_true, Bool.not_true, Bool.not_false, Bool.and_true, Bool.and_false, Bool.true_and, Bool.false_and, gI_sI, gI_sL, gI_sA, gI_sM, gL_sI, gL_sL, gL_sA, gL_sM, aI_sI, aI_sL, aI_sA, aI_sM, aL_sI, aL_sL, aL_sA, aL_sM]; try dsimp only
        refine ⟨fun h134 => ?_, fun h134 => ?_⟩
        · refine hB _ _ _ _ _ (fun m135 hm135 => ?_)
          dsimp only [ugo, uwp, ust, uct, rfd, BjudgeStep, BjudgeStep_539, Nat.beq, lv_args, rlk, rs1, rs2, rdl, rky, rcd, rno, rsw, Value.category, List.filter, List.take, List.drop, List.reverse, List.reverseAux, List.cons_append, List.nil_append, Option.toList, Int.toNat, Int.reduceToNat, if_pos, if_neg, reduceIte, ↓reduceIte, Nat.reduceAdd, Nat.reduceEqDiff, Nat.reduceBEq, beq_self_eq_true, Bool.not_true, Bool.not_false, Bool.and_true, Bool.and_false, Bool.true_and, Bool.false_and, gI_sI, gI_sL, gI_sA, gI_sM, gL_sI, gL_sL, gL_sA, gL_sM, aI_sI, aI_sL, aI_sA, aI_sM, aL_sI, aL_sL, aL_sA, aL_sM]; try dsimp only
          unfold Qv_judgeStepB
          try dsimp only
          exact ⟨rfl, _, _, sr_46 (by omega), Or.inr ⟨(show 0 ≤ (aI σ 20 c.toNatClampNeg) by lia), ⟨fun q => absurd q (by assumption), fun _ => rfl⟩⟩⟩
        · refine hB _ _ _ _ _ (fun m136 hm136 => ?_)
          dsimp only [ugo, uwp, ust, uct, rfd, BjudgeStep, BjudgeStep_532, Nat.beq, lv_args, rlk, rs1, rs2, rdl, rky, rcd, rno, rsw, Value.category, List.filter, List.take, List.drop, List.reverse, List.reverseAux, List.cons_append, List.nil_append, Option.toList, Int.toNat, Int.reduceToNat, if_pos, if_neg, reduceIte, ↓reduceIte, Nat.reduceAdd, Nat.reduceEqDiff, Nat.reduceBEq, beq_self_eq_true, Bool.not_true, Bool.not_false, Bool.and_true, Bool.and_false, Bool.true_and, Bool.false_and, gI_sI, gI_sL, gI_sA, gI_sM, gL_sI, gL_sL, gL_sA, gL_sM, aI_sI, aI_sL, aI_sA, aI_sM, aL_sI, aL_sL, aL_sA, aL_sM, oi_9]; try dsimp only
          refine ⟨trivial, fun w137 τ137 hq137 => ?_⟩
          obtain ⟨rfl, hz137⟩ := hq137 (show ¬ (9 : Int32) = 0 by decide)
          dsimp only [Option.toList, List.cons_append, List.nil_append, Nat.beq, gI_sI, gI_sL, gI_sA, gI_sM, gL_sI, gL_sL, gL_sA, gL_sM, aI_sI, aI_sL, aI_sA, aI_sM, aL_sI, aL_sL, aL_sA, aL_sM]
          exact hW _ 539 [(0, .ref 1000), (1, .int c), (2, .int ((aI σ 20) (c).toNatClampNeg)), (3, .int ((aI σ 22) (c).toNatClampNeg))] _ _ _ (by simp [rdl, rky, Value.category]) ((bad (by exact ⟨_, _, sr_46 (by omega), fun q => by have q1 : 0 ≤ (aI σ 20 c.toNatClampNeg) := q; lia⟩) _).2.2.2.2.2.2.2.2.2.2.2.2.2.2.2.2.2.2.2.2.2.2.2.2.2.2.2.2.2.2.2.2.1 c ((aI σ 20) (c).toNatClampNeg) ((aI σ 22) (c).toNatClampNeg) _ hz137)
      · refine hB _ _ _ _ _ (fun m138 hm138 => ?_)
        dsimp only [ugo, uwp, ust, uct, rfd, BjudgeStep, BjudgeStep_519, Nat.beq, lv_args, rlk, rs1, rs2, rdl, rky, rcd, rno, rsw, Value.category, List.filter, List.take, List.drop, List.reverse, List.reverseAux, List.cons_append, List.nil_append, Option.toList, Int.toNat, Int.reduceToNat, if_pos, if_neg, reduceIte, ↓reduceIte, Nat.reduceAdd, Nat.reduceEqDiff, Nat.reduceBEq, beq_self_eq_true, Bool.not_true, Bool.not_false, Bool.and_true, Bool.and_false, Bool.true_and, Bool.false_and, gI_sI, gI_sL, gI_sA, gI_sM, gL_sI, gL_sL, gL_sA, gL_sM, aI_sI, aI_sL, aI_sA, aI_sM, aL_sI, aL_sL, aL_sA, aL_sM, oi_200]; try dsimp only
        intro p139
        refine hB _ _ _ _ _ (fun m140 hm140 => ?_)
        dsimp only [ugo, uwp, ust, uct, rfd, BjudgeStep, BjudgeStep_528, Nat.beq, lv_args, rlk, rs1, rs2, rdl, rky, rcd, rno, rsw, Value.category, List.filter, List.take, List.drop, List.reverse, List.reverseAux, List.cons_append, List.nil_append, Option.toList, Int.toNat, Int.reduceToNat, if_pos, if_neg, reduceIte, ↓reduceIte, Nat.reduceAdd, Nat.reduceEqDiff, Nat.reduceBEq, beq_self_eq_true, Bool.not_true, Bool.not_false, Bool.and_true, Bool.and_false, Bool.true_and, Bool.false_and, gI_sI, gI_sL, gI_sA, gI_sM, gL_sI, gL_sL, gL_sA, gL_sM, aI_sI, aI_sL, aI_sA, aI_sM, aL_sI, aL_sL, aL_sA, aL_sM]; try dsimp only
        refine ⟨fun h141 => ?_, fun h141 => ?_⟩
        · refine hB _ _ _ _ _ (fun m142 hm142 => ?_)
          dsimp only [ugo, uwp, ust, uct, rfd, BjudgeStep, BjudgeStep_539, Nat.beq, lv_args, rlk, rs1, rs2, rdl, rky, rcd, rno, rsw, Value.category, List.filter, List.take, List.drop, List.reverse, List.reverseAux, List.cons_append, List.nil_append, Option.toList, Int.toNat, Int.reduceToNat, if_pos, if_neg, reduceIte, ↓reduceIte, Nat.reduceAdd, Nat.reduceEqDiff, Nat.reduceBEq, beq_self_eq_true, Bool.not_true, Bool.not_false, Bool.and_true, Bool.and_false, Bool.true_and, Bool.false_and, gI_sI, gI_sL, gI_sA, gI_sM, gL_sI, gL_sL, gL_sA, gL_sM, aI_sI, aI_sL, aI_sA, aI_sM, aL_sI, aL_sL, aL_sA, aL_sM]; try dsimp only
          unfold Qv_judgeStepB
          try dsimp only
          exact ⟨rfl, _, _, sr_46 (by omega), Or.inr ⟨(show 0 ≤ (aI σ 20 c.toNatClampNeg) by lia), ⟨fun _ => rfl, fun q => absurd (by assumption) q⟩⟩⟩
        · refine hB _ _ _ _ _ (fun m143 hm143 => ?_)
          dsimp only [ugo, uwp, ust, uct, rfd, BjudgeStep, BjudgeStep_532, Nat.beq, lv_args, rlk, rs1, rs2, rdl, rky, rcd, rno, rsw, Value.category, List.filter, List.take, List.drop, List.reverse, List.reverseAux, List.cons_append, List.nil_append, Option.toList, Int.toNat, Int.reduceToNat, if_pos, if_neg, reduceIte, ↓reduceIte, Nat.reduceAdd, Nat.reduceEqDiff, Nat.reduceBEq, beq_self_eq_true, Bool.not_true, Bool.not_false, Bool.and_true, Bool.and_false, Bool.true_and, Bool.false_and, gI_sI, gI_sL, gI_sA, gI_sM, gL_sI, gL_sL, gL_sA, gL_sM, aI_sI, aI_sL, aI_sA, aI_sM, aL_sI, aL_sL, aL_sA, aL_sM, oi_9]; try dsimp only
          refine ⟨trivial, fun w144 τ144 hq144 => ?_⟩
          obtain ⟨rfl, hz144⟩ := hq144 (show ¬ (9 : Int32) = 0 by decide)
          dsimp only [Option.toList, List.cons_append, List.nil_append, Nat.beq, gI_sI, gI_sL, gI_sA, gI_sM, gL_sI, gL_sL, gL_sA, gL_sM, aI_sI, aI_sL, aI_sA, aI_sM, aL_sI, aL_sL, aL_sA, aL_sM]
          exact hW _ 539 [(0, .ref 1000), (1, .int c), (2, .int ((aI σ 20) (c).toNatClampNeg)), (3, .int ((aI σ 22) (c).toNatClampNeg))] _ _ _ (by simp [rdl, rky, Value.category]) ((bad (by exact ⟨_, _, sr_46 (by omega), fun q => by have q1 : 0 ≤ (aI σ 20 c.toNatClampNeg) := q; lia⟩) _).2.2.2.2.2.2.2.2.2.2.2.2.2.2.2.2.2.2.2.2.2.2.2.2.2.2.2.2.2.2.2.2.1 c ((aI σ 20) (c).toNatClampNeg) ((aI σ 22) (c).toNatClampNeg) _ hz144)
    have c129 : ¬ (aI σ 19 c.toNatClampNeg).toInt = 47 := fun q => h129 ((rfl : (aI σ 19 c.toNatClampNeg).toInt = (aI σ 19 c.toNatClampNeg).toInt).trans q)
    refine ⟨fun h145 => ?_, fun h145 => ?_⟩
    · have c145 : (aI σ 19 c.toNatClampNeg).toInt = 48 := (rfl : (aI σ 19 c.toNatClampNeg).toInt = (aI σ 19 c.toNatClampNeg).toInt).symm.trans h145
      refine hB _ _ _ _ _ (fun m146 hm146 => ?_)
      dsimp only [ugo, uwp, ust, uct, rfd, BjudgeStep, BjudgeStep_540, Nat.beq, lv_args, rlk, rs1, rs2, rdl, rky, rcd, rno, rsw, Value.category, List.filter, List.take, List.drop, List.reverse, List.reverseAux, List.cons_append, List.nil_append, Option.toList, Int.toNat, Int.reduceToNat, if_pos, if_neg, reduceIte, ↓reduceIte, Nat.reduceAdd, Nat.reduceEqDiff, Nat.reduceBEq, beq_self_eq_true, Bool.not_true, Bool.not_false, Bool.and_true, Bool.and_false, Bool.true_and, Bool.false_and, gI_sI, gI_sL, gI_sA, gI_sM, gL_sI, gL_sL, gL_sA, gL_sM, aI_sI, aI_sL, aI_sA, aI_sM, aL_sI, aL_sL, aL_sA, aL_sM]; try dsimp only
      refine ⟨trivial, fun w147 τ147 hq147 => ?_⟩
      obtain ⟨rfl, hJ147⟩ := hq147.2 e rt ⟨hE, (fun q => hte (by simp only [q, not_false_eq_true, and_true]; omega)), hrt (by omega)⟩
      dsimp only [Option.toList, List.cons_append, List.nil_append, Nat.beq, gI_sI, gI_sL, gI_sA, gI_sM, gL_sI, gL_sL, gL_sA, gL_sM, aI_sI, aI_sL, aI_sA, aI_sM, aL_sI, aL_sL, aL_sA, aL_sM]
      unfold Qv_judgeStepB
      try dsimp only
      rcases hJ147 with ⟨q1, q2⟩ | ⟨q1, q2⟩
      · exact ⟨rfl, _, _, sr_48 (by omega), Or.inl ⟨q1, q2⟩⟩
      · exact ⟨rfl, _, _, sr_48 (by omega), Or.inr ⟨q1, q2⟩⟩
    have c145 : ¬ (aI σ 19 c.toNatClampNeg).toInt = 48 := fun q => h145 ((rfl : (aI σ 19 c.toNatClampNeg).toInt = (aI σ 19 c.toNatClampNeg).toInt).trans q)
    refine ⟨fun h148 => ?_, fun h148 => ?_⟩
    · have c148 : (aI σ 19 c.toNatClampNeg).toInt = 49 := (rfl : (aI σ 19 c.toNatClampNeg).toInt = (aI σ 19 c.toNatClampNeg).toInt).symm.trans h148
      refine hB _ _ _ _ _ (fun m149 hm149 => ?_)
      dsimp only [ugo, uwp, ust, uct, rfd, BjudgeStep, BjudgeStep_547, Nat.beq, lv_args, rlk, rs1, rs2, rdl, rky, rcd, rno, rsw, Value.category, List.filter, List.take, List.drop, List.reverse, List.reverseAux, List.cons_append, List.nil_append, Option.toList, Int.toNat, Int.reduceToNat, if_pos, if_neg, reduceIte, ↓reduceIte, Nat.reduceAdd, Nat.reduceEqDiff, Nat.reduceBEq, beq_self_eq_true, Bool.not_true, Bool.not_false, Bool.and_true, Bool.and_false, Bool.true_and, Bool.false_and, gI_sI, gI_sL, gI_sA, gI_sM, gL_sI, gL_sL, gL_sA, gL_sM, aI_sI, aI_sL, aI_sA, aI_sM, aL_sI, aL_sL, aL_sA, aL_sM, oi_1]; try dsimp only
      refine ⟨trivial, fun w150 τ150 hq150 => ?_⟩
      obtain ⟨rfl, b150, rfl, hb150⟩ := hq150 trivial
      obtain rfl : b150 = 0 := Classical.byContradiction (fun q => absurd (hb150.mp q) (TeR.nb (hte (by first | omega | exact Or.inr (Or.inr (Or.inr (Or.inr (Or.inr (Or.inl ⟨by omega, by assumption⟩)))))))))
      dsimp only [Option.toList, List.cons_append, List.nil_append, Nat.beq, gI_sI, gI_sL, gI_sA, gI_sM, gL_sI, gL_sL, gL_sA, gL_sM, aI_sI, aI_sL, aI_sA, aI_sM, aL_sI, aL_sL, aL_sA, aL_sM]
      refine ⟨fun h151 => absurd h151 (by decide), fun h151 => ?_⟩
      clear h151
      refine hB _ _ _ _ _ (fun m152 hm152 => ?_)
      dsimp only [ugo, uwp, ust, uct, rfd, BjudgeStep, BjudgeStep_568, Nat.beq, lv_args, rlk, rs1, rs2, rdl, rky, rcd, rno, rsw, Value.category, List.filter, List.take, List.drop, List.reverse, List.reverseAux, List.cons_append, List.nil_append, Option.toList, Int.toNat, Int.reduceToNat, if_pos, if_neg, reduceIte, ↓reduceIte, Nat.reduceAdd, Nat.reduceEqDiff, Nat.reduceBEq, beq_self_eq_true, Bool.not_true, Bool.not_false, Bool.and_true, Bool.and_false, Bool.true_and, Bool.false_and, gI_sI, gI_sL, gI_sA, gI_sM, gL_sI, gL_sL, gL_sA, gL_sM, aI_sI, aI_sL, aI_sA, aI_sM, aL_sI, aL_sL, aL_sA, aL_sM, oi_3]; try dsimp only
      refine ⟨trivial, fun w153 τ153 hq153 => ?_⟩
      obtain ⟨rfl, b153, rfl, hb153⟩ := hq153 trivial
      have hb153 := hb153 _ (hte (by first | omega | exact Or.inr (Or.inr (Or.inr (Or.inr (Or.inr (Or.inl ⟨by omega, by assumption⟩))))))) (by rw [show (3 : Int32).toInt = 3 from (rfl : (3 : Int32).toInt = 3)]; first | omega | decide)
      rw [show (3 : Int32).toInt = 3 from (rfl : (3 : Int32).toInt = 3)] at hb153
      dsimp only [Option.toList, List.cons_append, List.nil_append, Nat.beq, gI_sI, gI_sL, gI_sA, gI_sM, gL_sI, gL_sL, gL_sA, gL_sM, aI_sI, aI_sL, aI_sA, aI_sM, aL_sI, aL_sL, aL_sA, aL_sM]
      refine ⟨fun h154 => ?_, fun h154 => ?_⟩
      · have c154 : ftT e (3) := (hb153).mp h154
        refine hB _ _ _ _ _ (fun m155 hm155 => ?_)
        dsimp only [ugo, uwp, ust, uct, rfd, BjudgeStep, BjudgeStep_594, Nat.beq, lv_args, rlk, rs1, rs2, rdl, rky, rcd, rno, rsw, Value.category, List.filter, List.take, List.drop, List.reverse, List.reverseAux, List.cons_append, List.nil_append, Option.toList, Int.toNat, Int.reduceToNat, if_pos, if_neg, reduceIte, ↓reduceIte, Nat.reduceAdd, Nat.reduceEqDiff, Nat.reduceBEq, beq_self_eq_true, Bool.not_true, Bool.not_false, Bool.and_true, Bool.and_false, Bool.true_and, Bool.false_and, gI_sI, gI_sL, gI_sA, gI_sM, gL_sI, gL_sL, gL_sA, gL_sM, aI_sI, aI_sL, aI_sA, aI_sM, aL_sI, aL_sL, aL_sA, aL_sM]; try dsimp only
        unfold Qv_judgeStepB
        try dsimp only
        exact ⟨rfl, _, _, sr_49 (by omega), Or.inr ⟨(by assumption), rfl⟩⟩
      · have c154 : ¬ (ftT e (3)) := fun q => (hb153).mpr q h154
        refine hB _ _ _ _ _ (fun m156 hm156 => ?_)
        dsimp only [ugo, uwp, ust, uct, rfd, BjudgeStep, BjudgeStep_580, Nat.beq, lv_args, rlk, rs1, rs2, rdl, rky, rcd, rno, rsw, Value.category, List.filter, List.take, List.drop, List.reverse, List.reverseAux, List.cons_append, List.nil_append, Option.toList, Int.toNat, Int.reduceToNat, if_pos, if_neg, reduceIte, ↓reduceIte, Nat.reduceAdd, Nat.reduceEqDiff, Nat.reduceBEq, beq_self_eq_true, Bool.not_true, Bool.not_false, Bool.and_true, Bool.and_false, Bool.true_and, Bool.false_and, gI_sI, gI_sL, gI_sA, gI_sM, gL_sI, gL_sL, gL_sA, gL_sM, aI_sI, aI_sL, aI_sA, aI_sM, aL_sI, aL_sL, aL_sA, aL_sM, oi_5]; try dsimp only
        intro p157
        refine ⟨trivial, fun w158 τ158 hq158 => ?_⟩
        obtain ⟨rfl, hz158⟩ := hq158 (show ¬ (5 : Int32) = 0 by decide)
        dsimp only [Option.toList, List.cons_append, List.nil_append, Nat.beq, gI_sI, gI_sL, gI_sA, gI_sM, gL_sI, gL_sL, gL_sA, gL_sM, aI_sI, aI_sL, aI_sA, aI_sM, aL_sI, aL_sL, aL_sA, aL_sM]
        exact hW _ 594 [(0, .ref 1000), (1, .int c), (2, .int ((aI σ 20) (c).toNatClampNeg)), (3, .int ((aI σ 22) (c).toNatClampNeg))] _ _ _ (by simp [rdl, rky, Value.category]) ((bad (by exact ⟨_, _, sr_49 (by omega), fun q => absurd q (by assumption)⟩) _).2.2.2.2.2.2.2.2.2.2.2.2.2.2.2.2.2.2.2.2.2.2.2.2.2.2.2.2.2.2.2.2.2.2.2.2.2.1 c ((aI σ 20) (c).toNatClampNeg) ((aI σ 22) (c).toNatClampNeg) _ hz158)
    have c148 : ¬ (aI σ 19 c.toNatClampNeg).toInt = 49 := fun q => h148 ((rfl : (aI σ 19 c.toNatClampNeg).toInt = (aI σ 19 c.toNatClampNeg).toInt).trans q)
    refine ⟨fun h159 => ?_, fun h159 => ?_⟩
    · have c159 : (aI σ 19 c.toNatClampNeg).toInt = 50 := (rfl : (aI σ 19 c.toNatClampNeg).toInt = (aI σ 19 c.toNatClampNeg).toInt).symm.trans h159
      refine hB _ _ _ _ _ (fun m160 hm160 => ?_)
      dsimp only [ugo, uwp, ust, uct, rfd, BjudgeStep, BjudgeStep_606, Nat.beq, lv_args, rlk, rs1, rs2, rdl, rky, rcd, rno, rsw, Value.category, List.filter, List.take, List.drop, List.reverse, List.reverseAux, List.cons_append, List.nil_append, Option.toList, Int.toNat, Int.reduceToNat, if_pos, if_neg, reduceIte, ↓reduceIte, Nat.reduceAdd, Nat.reduceEqDiff, Nat.reduceBEq, beq_self_eq_true, Bool.not_true, Bool.not_false, Bool.and_true, Bool.and_false, Bool.true_and, Bool.false_and, gI_sI, gI_sL, gI_sA, gI_sM, gL_sI, gL_sL, gL_sA, gL_sM, aI_sI, aI_sL, aI_sA, aI_sM, aL_sI, aL_sL, aL_sA, aL_sM]; try dsimp only
      unfold Qv_judgeStepB
      try dsimp only
      exact ⟨rfl, _, _, sr_0 (by omega), Or.inr ⟨trivial, rfl⟩⟩
    have c159 : ¬ (aI σ 19 c.toNatClampNeg).toInt = 50 := fun q => h159 ((rfl : (aI σ 19 c.toNatClampNeg).toInt = (aI σ 19 c.toNatClampNeg).toInt).trans q)
    refine ⟨fun h161 => ?_, fun h161 => ?_⟩
    · have c161 : (aI σ 19 c.toNatClampNeg).toInt = 51 := (rfl : (aI σ 19 c.toNatClampNeg).toInt = (aI σ 19 c.toNatClampNeg).toInt).symm.trans h161
      refine hB _ _ _ _ _ (fun m162 hm162 => ?_)
      dsimp only [ugo, uwp, ust, uct, rfd, BjudgeStep, BjudgeStep_606, Nat.beq, lv_args, rlk, rs1, rs2, rdl, rky, rcd, rno, rsw, Value.category, List.filter, List.take, List.drop, List.reverse, List.reverseAux, List.cons_append, List.nil_append, Option.toList, Int.toNat, Int.reduceToNat, if_pos, if_neg, reduceIte, ↓reduceIte, Nat.reduceAdd, Nat.reduceEqDiff, Nat.reduceBEq, beq_self_eq_true, Bool.not_true, Bool.not_false, Bool.and_true, Bool.and_false, Bool.true_and, Bool.false_and, gI_sI, gI_sL, gI_sA, gI_sM, gL_sI, gL_sL, gL_sA, gL_sM, aI_sI, aI_sL, aI_sA, aI_sM, aL_sI, aL_sL, aL_sA, aL_sM]; try dsimp only
      unfold Qv_judgeStepB
      try dsimp only
      exact ⟨rfl, _, _, sr_0 (by omega), Or.inr ⟨trivial, rfl⟩⟩
    have c161 : ¬ (aI σ 19 c.toNatClampNeg).toInt = 51 := fun q => h161 ((rfl : (aI σ 19 c.toNatClampNeg).toInt = (aI σ 19 c.toNatClampNeg).toInt).trans q)
    refine ⟨fun h163 => ?_, fun h163 => ?_⟩
    · have c163 : (aI σ 19 c.toNatClampNeg).toInt = 52 := (rfl : (aI σ 19 c.toNatClampNeg).toInt = (aI σ 19 c.toNatClampNeg).toInt).symm.trans h163
      refine hB _ _ _ _ _ (fun m164 hm164 => ?_)
      dsimp only [ugo, uwp, ust, uct, rfd, BjudgeStep, BjudgeStep_606, Nat.beq, lv_args, rlk, rs1, rs2, rdl, rky, rcd, rno, rsw, Value.category, List.filter, List.take, List.drop, List.reverse, List.reverseAux, List.cons_append, List.nil_append, Option.toList, Int.toNat, Int.reduceToNat, if_pos, if_neg, reduceIte, ↓reduceIte, Nat.reduceAdd, Nat.reduceEqDiff, Nat.reduceBEq, beq_self_eq_true, Bool.not_true, Bool.not_false, Bool.and_true, Bool.and_false, Bool.true_and, Bool.false_and, gI_sI, gI_sL, gI_sA, gI_sM, gL_sI, gL_sL, gL_sA, gL_sM, aI_sI, aI_sL, aI_sA, aI_sM, aL_sI, aL_sL, aL_sA, aL_sM]; try dsimp only
      unfold Qv_judgeStepB
      try dsimp only
      exact ⟨rfl, _, _, sr_0 (by omega), Or.inr ⟨trivial, rfl⟩⟩
    have c163 : ¬ (aI σ 19 c.toNatClampNeg).toInt = 52 := fun q => h163 ((rfl : (aI σ 19 c.toNatClampNeg).toInt = (aI σ 19 c.toNatClampNeg).toInt).trans q)
    refine ⟨fun h165 => ?_, fun h165 => ?_⟩
    · have c165 : (aI σ 19 c.toNatClampNeg).toInt = 53 := (rfl : (aI σ 19 c.toNatClampNeg).toInt = (aI σ 19 c.toNatClampNeg).toInt).symm.trans h165
      refine hB _ _ _ _ _ (fun m166 hm166 => ?_)
      dsimp only [ugo, uwp, ust, uct, rfd, BjudgeStep, BjudgeStep_606, Nat.beq, lv_args, rlk, rs1, rs2, rdl, rky, rcd, rno, rsw, Value.category, List.filter, List.take, List.drop, List.reverse, List.reverseAux, List.cons_append, List.nil_append, Option.toList, Int.toNat, Int.reduceToNat, if_pos, if_neg, reduceIte, ↓reduceIte, Nat.reduceAdd, Nat.reduceEqDiff, Nat.reduceBEq, beq_self_eq_true, Bool.not_true, Bool.not_false, Bool.and_true, Bool.and_false, Bool.true_and, Bool.false_and, gI_sI, gI_sL, gI_sA, gI_sM, gL_sI, gL_sL, gL_sA, gL_sM, aI_sI, aI_sL, aI_sA, aI_sM, aL_sI, aL_sL, aL_sA, aL_sM]; try dsimp only
      unfold Qv_judgeStepB
      try dsimp only
      exact ⟨rfl, _, _, sr_0 (by omega), Or.inr ⟨trivial, rfl⟩⟩
    have c165 : ¬ (aI σ 19 c.toNatClampNeg).toInt = 53 := fun q => h165 ((rfl : (aI σ 19 c.toNatClampNeg).toInt = (aI σ 19 c.toNatClampNeg).toInt).trans q)
    refine ⟨fun h167 => ?_, fun h167 => ?_⟩
    · have c167 : (aI σ 19 c.toNatClampNeg).toInt = 54 := (rfl : (aI σ 19 c.toNatClampNeg).toInt = (aI σ 19 c.toNatClampNeg).toInt).symm.trans h167
      refine hB _ _ _ _ _ (fun m168 hm168 => ?_)
      dsimp only [ugo, uwp, ust, uct, rfd, BjudgeStep, BjudgeStep_595, Nat.beq, lv_args, rlk, rs1, rs2, rdl, rky, rcd, rno, rsw, Value.category, List.filter, List.take, List.drop, List.reverse, List.reverseAux, List.cons_append, List.nil_append, Option.toList, Int.toNat, Int.reduceToNat, if_pos, if_neg, reduceIte, ↓reduceIte, Nat.reduceAdd, Nat.reduceEqDiff, Nat.reduceBEq, beq_self_eq_true, Bool.not_true, Bool.not_false, Bool.and_true, Bool.and_false, Bool.true_and, Bool.false_and, gI_sI, gI_sL, gI_sA, gI_sM, gL_sI, gL_sL, gL_sA, gL_sM, aI_sI, aI_sL, aI_sA, aI_sM, aL_sI, aL_sL, aL_sA, aL_sM, oi_1]; try dsimp only
      unfold Qv_judgeStepB
      try dsimp only
      exact ⟨rfl, _, _, sr_54 (by omega), Or.inr ⟨trivial, rfl⟩⟩
    have c167 : ¬ (aI σ 19 c.toNatClampNeg).toInt = 54 := fun q => h167 ((rfl : (aI σ 19 c.toNatClampNeg).toInt = (aI σ 19 c.toNatClampNeg).toInt).trans q)
    refine hB _ _ _ _ _ (fun m169 hm169 => ?_)
    dsimp only [ugo, uwp, ust, uct, rfd, BjudgeStep, BjudgeStep_606, Nat.beq, lv_args, rlk, rs1, rs2, rdl, rky, rcd, rno, rsw, Value.category, List.filter, List.take, List.drop, List.reverse, List.reverseAux, List.cons_append, List.nil_append, Option.toList, Int.toNat, Int.reduceToNat, if_pos, if_neg, reduceIte, ↓reduceIte, Nat.reduceAdd, Nat.reduceEqDiff, Nat.reduceBEq, beq_self_eq_true, Bool.not_true, Bool.not_false, Bool.and_true, Bool.and_false, Bool.true_and, Bool.false_and, gI_sI, gI_sL, gI_sA, gI_sM, gL_sI, gL_sL, gL_sA, gL_sM, aI_sI, aI_sL, aI_sA, aI_sM, aL_sI, aL_sL, aL_sA, aL_sM]; try dsimp only
    unfold Qv_judgeStepB
    try dsimp only
    exact ⟨rfl, _, _, sr_0 (by omega), Or.inr ⟨trivial, rfl⟩⟩
  next => exact hP.elim
theorem w_judgeStepB : UMet 105 (fun _ _ => True) Qw_judgeStepB := fun A1 σ _ w τ h e vt rt kt hP => v_judgeStepB e vt rt kt A1 σ hP w τ h
def Qw_judgeStepJ : UQ1 := fun A1 σ w τ => Qw_judgeStepA A1 σ w τ ∧ Qw_judgeStepB A1 σ w τ
theorem w_judgeStepJ : UMet 105 (fun _ _ => True) Qw_judgeStepJ := fun A1 σ q w τ h => ⟨w_judgeStepA A1 σ q w τ h, w_judgeStepB A1 σ q w τ h⟩
