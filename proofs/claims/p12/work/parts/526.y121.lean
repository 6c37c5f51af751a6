/-! what the class's judge asks of the heap: the judge notes its program; more keys -/
section
variable {N : Int → Int} {E E' A B V J F : Nat → Nat} {σ : CsC} {z : ZS} {lo hi o : Nat} {v : Option Nat}
def EuE (E E' : Nat → Nat) : Prop := ∀ k, (k = 0 ∨ k = 1 ∨ k = 2 ∨ (211 ≤ k ∧ k ≤ 214) ∨ (302 ≤ k ∧ k ≤ 304) ∨ 1000 ≤ k) → E' k = E k
/-- more keys: the judge, the flow, its pile, out, in -/
def exE (E : Nat → Nat) (e3 e4 e93 e215 e216 : Nat) : Nat → Nat := fun k => if k = 3 then e3 else if k = 4 then e4 else if k = 93 then e93 else if k = 215 then e215 else if k = 216 then e216 else E k
theorem ex_eu {e3 e4 e93 e215 e216 : Nat} : EuE E (exE E e3 e4 e93 e215 e216) := fun k h => by
  unfold exE
  rw [if_neg (by omega), if_neg (by omega), if_neg (by omega), if_neg (by omega), if_neg (by omega)]
theorem ZD.ue (h : ZD N E A B V σ z) (e : EuE E E') : ZD N E' A B V σ z := by
  obtain ⟨h1, _, h3, h4, h5⟩ := h
  refine ⟨?_, trivial, ?_, ?_, h5⟩
  · unfold EnC at *
    rw [e 0 (by omega), e 1 (by omega), e 2 (by omega), e 211 (by omega), e 212 (by omega), e 213 (by omega), e 214 (by omega), e 302 (by omega), e 303 (by omega), e 304 (by omega)]
    exact h1
  · rw [e 302 (by omega), e 304 (by omega)]
    exact h3
  · rw [e 211 (by omega), e 212 (by omega), e 213 (by omega), e 214 (by omega), show (fun k => E' (1000 + k)) = fun k => E (1000 + k) from funext (fun k => e _ (by omega))]
    exact h4
theorem MhC.ue (h : MhC N E B J F σ z) (e : EuE E E') : MhC N E' B J F σ z := by
  intro k hk
  rw [e (1000 + k) (by omega)]
  exact h k hk
theorem xu121 : XuC [121] σ (pRC σ o 121 v) o := ⟨fun a k h => ⟨rfl, rfl, by
  refine fR_pR ?_
  rcases h with h | h
  · refine Or.inl (fun q => ?_)
    rw [q] at h
    cases h
  · exact Or.inr h⟩, ⟨rfl, rfl, rfl⟩, rfl⟩
theorem ZD.p121 (h : ZD N E A B V σ z) : ZD N E A B V (pRC σ o 121 v) z := by
  have f : ∀ a k, ¬ k = 121 → fIC (pRC σ o 121 v) a k = fIC σ a k ∧ fLC (pRC σ o 121 v) a k = fLC σ a k ∧ fRC (pRC σ o 121 v) a k = fRC σ a k := fun a k hk => ⟨rfl, rfl, fR_pR (Or.inl hk)⟩
  obtain ⟨h1, _, h3, ⟨l1, l2, l3, l4⟩, ⟨h5, h5'⟩, ⟨h6, h6'⟩, h7, h8⟩ := h
  have li : ∀ {a n : Nat} {F : Nat → Nat}, LiC σ a n F → LiC (pRC σ o 121 v) a n F := fun {a n F} q => q.cg (f a 1 (by decide)).2.2 rfl rfl (Nat.le_refl _)
  exact ⟨h1.cg (fun a k _ hk => (f a k (by omega)).2.2) (Nat.le_refl _), trivial, h3, ⟨li l1, li l2, li l3, li l4⟩, ⟨fun i hi => ⟨(h5 i hi).1.cg (fun k hk => f _ k (by omega)), (h5 i hi).2⟩, fun i hi => ⟨(h5' i hi).1, ChC.cg (fun a _ => (f _ 75 (by decide)).2.2) (h5' i hi).2⟩⟩, ⟨fun j hj => ⟨(h6 j hj).1.cg (fun k hk => f _ k (by omega)), (h6 j hj).2⟩, h6'⟩, fun v hv => (h7 v hv).cg (fun k hk => (f _ k (by omega)).1), h8⟩
/-- all that stands when the judge begins -/
theorem st_put {ρ : RS} {s : SpC} {n : Nat} (hR : RdA N ρ s z) (H : HI0 σ) (t0 : TyC σ (E 0) 8) (t2 : TyC σ (E 2) 10) (e3 : E 3 < cnC σ) (h217 : fIC σ (E 1) 217 = 0) (h210 : fRC σ (E 1) 210 = some (E 2)) (hZ : ZD N E A B V σ z) (hO : OiC E σ) (hM : MhC N E B J F σ z) (hL : MlC σ (E 211) lo hi (zMs z.1)) (h10 : (zMs z.1).length ≤ 10) {V1 : Nat → Int} (hV : ∀ k, V1 k = (F k : Int)) (h120 : fRC σ (E 3) 120 = some (E 4)) (h4 : E 4 < cnC σ) (h94 : (fIC σ (E 4) 94).toInt = (n : Int)) (hn : n ≤ 500) (h93 : fRC σ (E 4) 93 = some (E 93)) (hb : E 93 < cnC σ) :
    StC N E A B V (pRC σ (E 3) 121 (some (E 1))) z (msM N koY kiY z.1) (zMs z.1).length ∧ BdC E (pRC σ (E 3) 121 (some (E 1))) (msM N koY kiY z.1) ∧ MbC E B (pRC σ (E 3) 121 (some (E 1))) z (msM N koY kiY z.1) (zMs z.1).length J V1 ∧ (∃ u, WzC E (pRC σ (E 3) 121 (some (E 1))) u) ∧ RoC (pRC σ (E 3) 121 (some (E 1))) (E 214) := by
  have bd := bd_of H t0 hZ hO hM hL h10 h120 h4
  have mb : MbC E B σ z (msM N koY kiY z.1) (zMs z.1).length J V1 := mb_of hV hZ hM hL h10
  refine ⟨⟨⟨hZ.p121, hR.sk, fun i hi k => ?_⟩, ⟨⟨?_, hZ.1.2.2.2.1.2.1, e3⟩, h217, h210, hZ.1.2.2.1.2.1, hZ.1.2.2.1.2.2⟩, (ma_of H hZ hO hM hL h10).xu xu121 rfl, fun i m r hm hr e => ?_⟩, bd.1, mb, ?_, bd.2⟩
  · obtain ⟨x, l, h1, _, h3⟩ := xg_ex (L := z.2.1) hi
    have e2 : xth z i = x := h3
    rw [e2] at k ⊢
    exact hR.iv.2.2.1 x (h1.subset List.mem_cons_self) k
  · exact fR_pRs
  · obtain ⟨_, _, t⟩ := mk_of H hZ hO hM hL h10 i m hm
    obtain ⟨b, _, e1, _, _, g7⟩ := cg183 H t
    obtain ⟨c, _, e3, _, _, g0⟩ := cg303 H t2
    have hr : fRC σ (MoE E i) 183 = some r := hr
    obtain rfl : r = b := Option.some.inj (hr.symm.trans e1)
    obtain rfl : E 303 = c := Option.some.inj (hZ.1.2.2.1.2.1.symm.trans e3)
    rw [e, g0] at g7
    cases g7
  · obtain ⟨u, hu⟩ := wz_of (σ := σ) (E := E) h217 h94 hn h93 hb
    exact ⟨u, hu⟩
end
