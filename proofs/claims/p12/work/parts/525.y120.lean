/-! what the class's judge asks of the heap: out of what was read -/
def OiC (E : Nat → Nat) (σ : CsC) : Prop := (fRC σ (E 1) 215 = some (E 215) ∧ fRC σ (E 1) 216 = some (E 216)) ∧ (MkC σ (koY, 5, [4]) (E 215) ∧ MkC σ (kiY, 3, []) (E 216)) ∧ TyC σ (E 215) 6 ∧ TyC σ (E 216) 6
section
variable {N : Int → Int} {E A B V J F : Nat → Nat} {σ : CsC} {z : ZS} {a lo hi : Nat}
theorem zd_rs (h : ZD N E A B V σ (rsM z)) : ZD N E A B V σ z := h
theorem mh_rs (h : MhC N E B J F σ (rsM z)) : MhC N E B J F σ z := h
theorem mth_no : ∀ {l : List (Int × Int × List Int)} {k : Nat}, l.length ≤ k → mthL l k = none := by
  intro l
  induction l with
  | nil => exact fun _ => rfl
  | cons a l ih =>
    intro k h
    rw [List.length_cons] at h
    rw [mthL, if_neg (by omega)]
    exact ih (by omega)
theorem mt_ml : ∀ {l : List (Int × Int × List Int)} {k : Nat}, MlC σ a lo hi l → k < l.length → ∃ o r m, (mthL l k = some m ∧ l.getD (l.length - 1 - k) (0, 0, []) = m) ∧ (elC σ a k = some o ∧ fRC σ o 183 = some r) ∧ ((o < cnC σ ∧ tgC σ o = 6) ∧ r < cnC σ) ∧ MoC σ o r m := by
  intro l
  induction l with
  | nil => exact fun _ h => absurd h (Nat.not_lt_zero _)
  | cons m0 l ih =>
    intro k ⟨⟨o, r, h1, ⟨h2, h3⟩, _, h4⟩, hm⟩ h
    rw [List.length_cons] at h ⊢
    by_cases e : k = l.length
    · rw [e]
      refine ⟨o, r, m0, ⟨by rw [mthL, if_pos rfl], ?_⟩, h1, ⟨h2, h3.1⟩, h4⟩
      rw [show l.length + 1 - 1 - l.length = 0 by omega]
      rfl
    · obtain ⟨o, r, m, ⟨g1, g2⟩, g3⟩ := ih hm (k := k) (by omega)
      refine ⟨o, r, m, ⟨by rw [mthL, if_neg e]; exact g1, ?_⟩, g3⟩
      rw [show l.length + 1 - 1 - k = (l.length - 1 - k) + 1 by omega]
      exact g2
theorem pt_rv {r : Nat} : ∀ {l : List Int}, PtC σ r l → ∀ i, i < l.length → (eIC σ r i).toInt = l.reverse.getD i 0 := by
  intro l
  induction l with
  | nil => exact fun _ i h => absurd h (Nat.not_lt_zero _)
  | cons x l ih =>
    intro ⟨h1, h2⟩ i hi
    rw [List.length_cons] at hi
    rw [List.reverse_cons, List.getD_eq_getElem?_getD]
    by_cases e : i = l.length
    · rw [e, List.getElem?_append_right (by rw [List.length_reverse]; exact Nat.le_refl _), List.length_reverse, Nat.sub_self]
      exact h1
    · rw [List.getElem?_append_left (by rw [List.length_reverse]; omega), ← List.getD_eq_getElem?_getD]
      exact ih h2 i (by omega)
theorem ms_k {N : Int → Int} {s : SpC} {i : Nat} (h10 : (zMs s).length ≤ 10) : (i < (zMs s).length → msM N koY kiY s i = (mthL (zMs s) i).map (fun m => (N m.1, m.2.1, m.2.2.reverse))) ∧ (¬ (i < (zMs s).length ∨ i = 10 ∨ i = 11) → msM N koY kiY s i = none) := by
  refine ⟨fun h => ?_, fun h => ?_⟩
  · unfold msM
    rw [if_neg (by omega), if_neg (by omega)]
  · unfold msM
    rw [if_neg (by omega), if_neg (by omega), mth_no (by omega)]
    rfl
/-- methods' objects -/
theorem mk_of (H : HI0 σ) (hZ : ZD N E A B V σ z) (hO : OiC E σ) (hM : MhC N E B J F σ z) (hL : MlC σ (E 211) lo hi (zMs z.1)) (h10 : (zMs z.1).length ≤ 10) : ∀ i m, msM N koY kiY z.1 i = some m → (i < (zMs z.1).length ∨ i = 10 ∨ i = 11) ∧ MkC σ m (MoE E i) ∧ TyC σ (MoE E i) 6 := by
  intro i m hm
  by_cases c : i = 10
  · rw [c] at hm ⊢
    have e : m = (koY, 5, [4]) := (Option.some.inj ((show msM N koY kiY z.1 10 = some (koY, 5, [4]) from rfl).symm.trans hm)).symm
    rw [e]
    exact ⟨Or.inr (Or.inl rfl), hO.2.1.1, hO.2.2.1⟩
  by_cases d : i = 11
  · rw [d] at hm ⊢
    have e : m = (kiY, 3, []) := (Option.some.inj ((show msM N koY kiY z.1 11 = some (kiY, 3, []) from rfl).symm.trans hm)).symm
    rw [e]
    exact ⟨Or.inr (Or.inr rfl), hO.2.1.2, hO.2.2.2⟩
  by_cases k : i < (zMs z.1).length
  · obtain ⟨o, r, m0, ⟨g1, g2⟩, ⟨g3, g4⟩, ⟨g5, g6⟩, ⟨g7, g8, g9⟩, g10⟩ := mt_ml hL k
    have e := (hZ.2.2.2.1.2.2.2.2 i k).1
    obtain rfl : o = E (1000 + i) := Option.some.inj (g3.symm.trans e)
    rw [(ms_k h10).1 k, g1] at hm
    obtain rfl : (N m0.1, m0.2.1, m0.2.2.reverse) = m := Option.some.inj hm
    have em : MoE E i = E (1000 + i) := by
      unfold MoE
      rw [if_neg c, if_neg d]
    rw [em]
    have ty : TyC σ (E (1000 + i)) 6 := ⟨g5.1, g5.2, fun q => absurd q (by decide)⟩
    obtain ⟨x, _, x1, x2, x3⟩ := cg185 H ty
    refine ⟨Or.inl k, ⟨?_, g8, ?_, r, ⟨g4, g6, ?_⟩, fun q hq => ?_⟩, ty⟩
    · rw [(hM i k).1]
      show N ((zMs z.1).getD ((zMs z.1).length - 1 - i) (0, 0, [])).1 = N m0.1
      rw [g2]
    · rw [g9]
      show (m0.2.2.length : Int) = (m0.2.2.reverse.length : Int)
      rw [List.length_reverse]
    · show m0.2.2.reverse.length ≤ 6
      rw [List.length_reverse]
      rw [x1] at g9
      omega
    · have hq : q < m0.2.2.reverse.length := hq
      rw [List.length_reverse] at hq
      exact pt_rv g10 q hq
  · rw [(ms_k h10).2 (by omega)] at hm
    cases hm
theorem ma_of (H : HI0 σ) (hZ : ZD N E A B V σ z) (hO : OiC E σ) (hM : MhC N E B J F σ z) (hL : MlC σ (E 211) lo hi (zMs z.1)) (h10 : (zMs z.1).length ≤ 10) : MaC E σ (msM N koY kiY z.1) (zMs z.1).length := by
  refine ⟨⟨hZ.1.2.1.1, hO.1.1, hO.1.2⟩, hZ.2.2.2.1.2.2.2, h10, fun i m hm => ?_, fun i hi => ?_⟩
  · have q := mk_of H hZ hO hM hL h10 i m hm
    exact ⟨q.1, q.2.1⟩
  · rintro (k | rfl | rfl)
    · obtain ⟨o, r, m0, ⟨g1, _⟩, _⟩ := mt_ml hL k
      rw [(ms_k h10).1 k, g1] at hi
      cases hi
    · cases hi
    · cases hi
/-- what stands when the judge begins -/
theorem st_of {ρ : RS} {s : SpC} (hR : RdA N ρ s z) (H : HI0 σ) (t2 : TyC σ (E 2) 10) (hP : PjC E σ) (h217 : fIC σ (E 1) 217 = 0) (h210 : fRC σ (E 1) 210 = some (E 2)) (hZ : ZD N E A B V σ z) (hO : OiC E σ) (hM : MhC N E B J F σ z) (hL : MlC σ (E 211) lo hi (zMs z.1)) (h10 : (zMs z.1).length ≤ 10) : StC N E A B V σ z (msM N koY kiY z.1) (zMs z.1).length := by
  refine ⟨⟨hZ, hR.sk, fun i hi k => ?_⟩, ⟨hP, h217, h210, hZ.1.2.2.1.2.1, hZ.1.2.2.1.2.2⟩, ma_of H hZ hO hM hL h10, fun i m r hm hr e => ?_⟩
  · obtain ⟨x, l, h1, _, h3⟩ := xg_ex (L := z.2.1) hi
    have e2 : xth z i = x := h3
    rw [e2] at k ⊢
    exact hR.iv.2.2.1 x (h1.subset List.mem_cons_self) k
  · obtain ⟨_, _, t⟩ := mk_of H hZ hO hM hL h10 i m hm
    obtain ⟨b, _, e1, _, _, g7⟩ := cg183 H t
    obtain ⟨c, _, e3, _, _, g0⟩ := cg303 H t2
    obtain rfl : r = b := Option.some.inj (hr.symm.trans e1)
    obtain rfl : E 303 = c := Option.some.inj (hZ.1.2.2.1.2.1.symm.trans e3)
    rw [e, g0] at g7
    cases g7
theorem row_lt (H : HI0 σ) {b : Nat} (hb : b < cnC σ) (ht : tgC σ b = 0) : RoC σ b := by
  intro s0 r hr
  rcases (H b hb).2.1 ht with q | ⟨r2, q1, ⟨q2, -⟩, -⟩
  · rw [q.2] at s0
    exact absurd s0 (by decide)
  · obtain rfl : r = r2 := Option.some.inj (hr.symm.trans q1)
    exact q2
theorem bd_of (H : HI0 σ) (t0 : TyC σ (E 0) 8) (hZ : ZD N E A B V σ z) (hO : OiC E σ) (hM : MhC N E B J F σ z) (hL : MlC σ (E 211) lo hi (zMs z.1)) (h10 : (zMs z.1).length ≤ 10) (h3 : fRC σ (E 3) 120 = some (E 4)) (h4 : E 4 < cnC σ) : BdC E σ (msM N koY kiY z.1) ∧ RoC σ (E 214) := by
  have ls := (hZ.1.ls H t0).1
  have lt := hZ.1.2.2.2.2.1
  exact ⟨⟨row_lt H lt.1 ls.1, row_lt H lt.2.2.1 ls.2.2.1, row_lt H lt.2.1 ls.2.1, fun i m hm => (mk_of H hZ hO hM hL h10 i m hm).2.2.1, ⟨hZ.1.2.2.2.1.2.2, hZ.1.2.2.2.2.2.1.2.2⟩, h3, h4⟩, row_lt H lt.2.2.2 ls.2.2.2⟩
theorem mb_of {V1 : Nat → Int} (hV : ∀ k, V1 k = (F k : Int)) (hZ : ZD N E A B V σ z) (hM : MhC N E B J F σ z) (hL : MlC σ (E 211) lo hi (zMs z.1)) (h10 : (zMs z.1).length ≤ 10) : MbC E B σ z (msM N koY kiY z.1) (zMs z.1).length J V1 := by
  intro k hk
  obtain ⟨_, m2, m3, m4⟩ := hM k hk
  obtain ⟨o, r, m0, ⟨g1, _⟩, _⟩ := mt_ml hL hk
  exact ⟨m3, m4, by rw [m2, hV], (hZ.2.2.2.1.2.2.2.2 k hk).2, _, by rw [(ms_k h10).1 hk, g1]; rfl⟩
theorem wz_of (h217 : fIC σ (E 1) 217 = 0) {n : Nat} (h94 : (fIC σ (E 4) 94).toInt = (n : Int)) (hn : n ≤ 500) (h93 : fRC σ (E 4) 93 = some (E 93)) (hb : E 93 < cnC σ) : ∃ u, WzC E σ u := by
  refine ⟨(fLC σ (E 4) 91, fLC σ (E 4) 92, (List.range n).map (fun i => eLC σ (E 93) (n - 1 - i)), false), ⟨rfl, rfl, ?_⟩, ⟨?_, h93, hb⟩, fun i hi => ?_, ⟨fun q => absurd h217 q, fun q => by cases q⟩⟩
  · show _ = (((List.range n).map (fun i => eLC σ (E 93) (n - 1 - i))).length : Int)
    rw [List.length_map, List.length_range]
    exact h94
  · show ((List.range n).map (fun i => eLC σ (E 93) (n - 1 - i))).length ≤ 500
    rw [List.length_map, List.length_range]
    exact hn
  · have hi : i < ((List.range n).map (fun i => eLC σ (E 93) (n - 1 - i))).length := hi
    show _ = ((List.range n).map (fun i => eLC σ (E 93) (n - 1 - i))).getD (((List.range n).map (fun i => eLC σ (E 93) (n - 1 - i))).length - 1 - i) 0
    rw [List.length_map, List.length_range] at hi ⊢
    rw [List.getD_eq_getElem?_getD, List.getElem?_map, List.getElem?_range (by omega)]
    show _ = eLC σ (E 93) (n - 1 - (n - 1 - i))
    rw [show n - 1 - (n - 1 - i) = i by omega]
end
