/-! values of CONSTANTS are of their TYPES: all exps -/
def SgX (x : XrZ) : Prop := (x.1.1 = 4 → x.1.2.1 = 34 ∨ x.1.2.1 = 35 ∨ x.1.2.1 = 39 ∨ x.1.2.1 = 40) ∧ (x.1.1 = 5 → 0 ≤ x.2.1.2.2 ∧ x.2.1.2.2 ≤ 4) ∧ (x.1.1 = 7 → 20 ≤ x.1.2.1 ∧ x.1.2.1 ≤ 38)
theorem jd_i {C : CxT} {z : ZS} (hS : SkP z.2.1 []) (hk : ∀ i, i < xnM z → 0 ≤ (xth z i).1.1 ∧ (xth z i).1.1 ≤ 15) (hg : ∀ i, i < xnM z → SgX (xth z i)) (h1 : ∀ i, i < xnM z → (xth z i).1.1 = 1 → VaT ((t0T C.1 (fun i => xth z i)).1 i)) (hv : VvT C (t0T C.1 (fun i => xth z i))) (hm : MyT C) : ∀ i, i ≤ xnM z → ∀ U, tbT C (fun i => xth z i) i = some U → VvT C U ∧ ∀ k, k < i → (xth z k).1.1 ≤ 10 → VaT (U.1 k) := by
  intro i
  induction i with
  | zero =>
    intro _ U h
    obtain rfl := Option.some.inj h
    exact ⟨hv, fun k hk => absurd hk (Nat.not_lt_zero _)⟩
  | succ i ih =>
    intro hi U h
    obtain ⟨V, e, v1, v2, rfl⟩ := tb_p h
    obtain ⟨a1, a2⟩ := ih (by omega) V v1
    have v2 : exT C V i (xth z i) = some e := v2
    have kk := hk i (by omega)
    have ops : ∀ q ∈ opsZ (xth z i), VaT (opT V q) := fun q hq => by
      obtain ⟨o1, o2, o3⟩ := sk_op hS i (show i < xcZ z.2.1 from hi) q hq
      exact a2 q.toNat (by omega) o3
    have ti := tb_i i V v1 i (Nat.le_refl _)
    refine ⟨?_, fun k hk' k10 => ?_⟩
    · intro v hvv
      refine ⟨(a1 v hvv).1, ?_⟩
      show ¬ (vrT C V (xth z i) v).1 = 0 → nrT (C.2.1 v).1 (vrT C V (xth z i) v).2 = (vrT C V (xth z i) v).2 ∧ ((C.2.1 v).1 = 0 → (vrT C V (xth z i) v).2 = 0 ∨ (vrT C V (xth z i) v).2 = 1)
      unfold vrT
      by_cases c : (xth z i).1.1 = 15
      · rw [if_pos c]
        by_cases d : (v : Int) = (xth z i).2.1.2.1
        · rw [if_pos d]
          intro g
          by_cases f : ¬ (vtT C (xth z i).2.1.2.1).2 = 0 ∧ ¬ (opT V (xth z i).2.2.1.2.1).2.1 = 0
          · rw [ex_15 c] at v2
            unfold xsT at v2
            have ft : ftT (opT V (xth z i).2.2.1.2.1) (vtT C (xth z i).2.1.2.1).1 := by
              by_cases q : knT C (xth z i).2.1.2.1 ∧ ftT (opT V (xth z i).2.2.1.2.1) (vtT C (xth z i).2.1.2.1).1
              · exact q.2
              · rw [if_neg q] at v2
                cases v2
            have vt : vtT C (xth z i).2.1.2.1 = C.2.1 v := by
              unfold vtT
              rw [← d]
              rfl
            rw [vt] at ft
            have om : (xth z i).2.2.1.2.1 ∈ opsZ (xth z i) := by
              unfold opsZ
              rw [if_pos (by omega)]
              exact List.mem_cons_self
            have r := ft_ca ft (ops _ om) f.2 (a1 v hvv).1
            exact ⟨r.1, r.2.1⟩
          · rw [if_neg f] at g
            exact absurd rfl g
        · rw [if_neg d]
          exact (a1 v hvv).2
      · rw [if_neg c]
        exact (a1 v hvv).2
    · show VaT (if k = i then e else V.1 k)
      by_cases c : k = i
      · rw [if_pos c]
        rw [c] at k10
        refine va_ex v2 ⟨kk.1, k10⟩ ?_ (fun q => ?_) (fun q => ?_) (fun q => ?_) (fun q => ?_) a1 hm (hg i (by omega))
        · rw [ti]
          by_cases q : (xth z i).1.1 = 1
          · exact Or.inl (h1 i (by omega) q)
          · omega
        · rw [ti]
          show coX (xth z i) = 0
          exact if_neg (by omega)
        · refine ops _ ?_
          unfold opsZ
          rw [if_pos (by omega)]
          exact List.mem_cons_self
        · have e7 : opsZ (xth z i) = [(xth z i).2.2.1.2.2.1, (xth z i).2.2.1.2.1] := by
            unfold opsZ
            rw [if_neg (by omega), if_pos q]
          exact ⟨ops _ (by rw [e7]; exact List.mem_cons_of_mem _ List.mem_cons_self), ops _ (by rw [e7]; exact List.mem_cons_self)⟩
        · have e8 : opsZ (xth z i) = [(xth z i).2.2.1.2.2.2.1, (xth z i).2.2.1.2.2.1, (xth z i).2.2.1.2.1] := by
            unfold opsZ
            rw [if_neg (by omega), if_neg (by omega), if_pos q]
          exact ⟨ops _ (by rw [e8]; exact List.mem_cons_of_mem _ List.mem_cons_self), ops _ (by rw [e8]; exact List.mem_cons_self)⟩
      · rw [if_neg c]
        exact a2 k (by omega) k10
theorem jd_of {C : CxT} {z : ZS} {T : TbT} (hT : tbT C (fun i => xth z i) (xnM z) = some T) (hS : SkP z.2.1 []) (hk : ∀ i, i < xnM z → 0 ≤ (xth z i).1.1 ∧ (xth z i).1.1 ≤ 15) (hg : ∀ i, i < xnM z → SgX (xth z i))
    (h1 : ∀ i, i < xnM z → (xth z i).1.1 = 1 → VaT ((t0T C.1 (fun i => xth z i)).1 i)) (hv : VvT C (t0T C.1 (fun i => xth z i))) (hm : MyT C) : JdL C z T := ⟨hT, fun i hi h10 => (jd_i hS hk hg h1 hv hm (xnM z) (Nat.le_refl _) T hT).2 i hi h10⟩
