/-- the tables say of an instruction what was found out about it -/
def rok2 (nL : Nat) (ret : Option FieldType) (x : RI) (pc : Nat) : Bool :=
  match x.1 with
  | .iconst _ => x.2.1 == 1
  | .bipush n => x.2.1 == 2 && decide ((Int8.ofInt n).toInt32 = Int32.ofInt n)
  | .sipush n => x.2.1 == 3 && decide ((Int16.ofInt n).toInt32 = Int32.ofInt n)
  | .lconst _ => x.2.1 == 1
  | .ldc2_w i => x.2.1 == 3 && decide ((i, Int64.ofInt x.2.2.1) ∈ llk)
  | .iload_n n => x.2.1 == 1 && decide ((n : Nat) = x.2.2.2.1)
  | .iload _ => x.2.1 == 2
  | .lload_n n => x.2.1 == 1 && decide ((n : Nat) = x.2.2.2.1)
  | .lload _ => x.2.1 == 2
  | .aload_n n => x.2.1 == 1 && decide ((n : Nat) = x.2.2.2.1)
  | .istore_n n => x.2.1 == 1 && decide ((n : Nat) < nL) && decide ((n : Nat) = x.2.2.2.1)
  | .istore n => x.2.1 == 2 && decide (n < nL)
  | .lstore_n n => x.2.1 == 1 && decide ((n : Nat) + 1 < nL) && decide ((n : Nat) = x.2.2.2.1)
  | .lstore n => x.2.1 == 2 && decide (n + 1 < nL)
  | .iinc n _ => x.2.1 == 3 && decide (n < nL)
  | .ifCond _ o => x.2.1 == 3 && decide ((pc : Int) + o = (x.2.2.2.1 : Int))
  | .if_icmp _ o => x.2.1 == 3 && decide ((pc : Int) + o = (x.2.2.2.1 : Int))
  | .goto o => x.2.1 == 3 && decide ((pc : Int) + o = (x.2.2.2.1 : Int))
  | .tableswitch d lo hi os => decide ((pc : Int) + d = (x.2.2.2.1 : Int)) && decide (hi + 1 = lo + x.2.2.2.2.length) && decide (x.2.2.2.2.length = os.size) && (List.range os.size).all (fun j => match x.2.2.2.2[j]?, os[j]? with
    | some q, some o => decide (q.1 = lo + j) && decide ((pc : Int) + o = (q.2 : Int))
    | _, _ => false)
  | .lookupswitch d ps => decide ((pc : Int) + d = (x.2.2.2.1 : Int)) && (ps.toList.zip (ps.toList.drop 1)).all (fun (a, next) => a.1 < next.1) && decide (x.2.2.2.2.map (fun q => (q.1, (q.2 : Int))) = ps.toList.map (fun q => (q.1, (pc : Int) + q.2)))
  | .ireturn => x.2.1 == 1 && ((decide (ret = some .int) && decide (x.2.2.1 = 1)) || (decide (ret = some .boolean) && decide (x.2.2.1 = 2)))
  | .lreturn => x.2.1 == 1 && decide (ret = some .long)
  | .return_ => x.2.1 == 1 && decide (ret = none)
  | .getfield i => x.2.1 == 3 && decide ((i, x.2.2.2.1) ∈ flk) && decide ((kd x.2.2.2.1 : Int) = x.2.2.1) && decide (x.2.2.2.1 < 150)
  | .putfield i => x.2.1 == 3 && decide ((i, x.2.2.2.1) ∈ flk) && decide ((kd x.2.2.2.1 : Int) = x.2.2.1) && decide (x.2.2.2.1 < 150)
  | .invokevirtual i => x.2.1 == 3 && decide ((i, x.2.2.2.1) ∈ mlk) && (match mtab[x.2.2.2.1]? with
    | some r => decide ((r.2.2.2.2 : Int) = x.2.2.1)
    | none => false)
  | _ => x.2.1 == 1
def rok (cc : ByteArray) (nL : Nat) (ret : Option FieldType) (x : RI) (pc : Nat) : Bool := decide (decode cc pc = .ok (x.1, x.2.1)) && rok2 nL ret x pc
def rokB (cc : ByteArray) (nL : Nat) (ret : Option FieldType) : List RI → Nat → Bool
  | [], _ => true
  | x :: is, pc => rok cc nL ret x pc && rokB cc nL ret is (pc + x.2.1)
theorem rcat {h : Nat} {ad : Nat → Nat} {v : Value} : (rcv h ad v).category = v.category := by
  cases v <;> rfl
theorem rlk_mem {ls : RL} {i : Nat} {v : Value} (h : rlk ls i = some v) : (i, v) ∈ ls := by
  induction ls with
  | nil => cases h
  | cons q r ih =>
    unfold rlk at h
    cases hb : Nat.beq q.1 i with
    | true =>
      rw [hb] at h
      have e1 : q.1 = i := Nat.eq_of_beq_eq_true hb
      have e2 : q.2 = v := Option.some.inj h
      subst e1; subst e2
      exact List.mem_cons_self
    | false =>
      rw [hb] at h
      exact List.mem_cons_of_mem _ (ih h)
def rlm (h : Nat) (ad : Nat → Nat) (ls : RL) : RL := ls.map (fun q => (q.1, rcv h ad q.2))
theorem rlm_at {h : Nat} {ad : Nat → Nat} {ls : RL} {a : Array Slot} {nL i : Nat} {v : Value} (hl : lv_has a nL (rlm h ad ls)) (hk : rlk ls i = some v) : a[i]? = some (.val (rcv h ad v)) :=
  hl.2.2 (i, rcv h ad v) (List.mem_map.mpr ⟨(i, v), rlk_mem hk, rfl⟩)
theorem rdl_eq1 {i : Nat} (ls : RL) : rdl i i ls = ls.filter (fun q => !(q.1 == i) && !(q.1 + 1 == i && q.2.category == 2)) := by
  induction ls with
  | nil => rfl
  | cons q r ih =>
    have hk : rky i i q = (!(q.1 == i) && !(q.1 + 1 == i && q.2.category == 2)) := by
      obtain ⟨a, v⟩ := q
      unfold rky
      dsimp only
      by_cases h1 : a = i
      · subst h1; simp [nb_eq]
      · rw [nb_ne h1]
        by_cases h2 : a + 1 = i
        · subst h2
          rw [nb_eq]
          cases v <;> simp [Value.category]
        · rw [nb_ne h2]
          simp [h1, h2]
    unfold rdl
    rw [List.filter_cons, ← hk, ih]
    cases rky i i q <;> rfl
theorem rdl_eq2 {i : Nat} (ls : RL) : rdl i (i + 1) ls = ls.filter (fun q => !(q.1 == i) && (!(q.1 == i + 1) && !(q.1 + 1 == i && q.2.category == 2))) := by
  induction ls with
  | nil => rfl
  | cons q r ih =>
    have hk : rky i (i + 1) q = (!(q.1 == i) && (!(q.1 == i + 1) && !(q.1 + 1 == i && q.2.category == 2))) := by
      obtain ⟨a, v⟩ := q
      unfold rky
      dsimp only
      by_cases h1 : a = i
      · subst h1; simp [nb_eq]
      · rw [nb_ne h1]
        by_cases h3 : a = i + 1
        · subst h3; simp [nb_eq]
        · rw [nb_ne h3]
          by_cases h2 : a + 1 = i
          · subst h2
            rw [nb_eq]
            cases v <;> simp [Value.category] <;> omega
          · rw [nb_ne h2]
            simp [h1, h2, h3]
    unfold rdl
    rw [List.filter_cons, ← hk, ih]
    cases rky i (i + 1) q <;> rfl
theorem rlm_s1 {h : Nat} {ad : Nat → Nat} {ls : RL} {i : Nat} {v : Value} : (i, rcv h ad v) :: (rlm h ad ls).filter (fun q => !(q.1 == i) && !(q.1 + 1 == i && q.2.category == 2)) = rlm h ad (rs1 ls i v) := by
  unfold rlm rs1
  rw [List.map_cons, List.filter_map, rdl_eq1]
  congr 2
  apply List.filter_congr
  intro q _
  simp [Function.comp, rcat]
theorem rlm_s2 {h : Nat} {ad : Nat → Nat} {ls : RL} {i : Nat} {v : Value} : (i, rcv h ad v) :: (rlm h ad ls).filter (fun q => !(q.1 == i) && (!(q.1 == i + 1) && !(q.1 + 1 == i && q.2.category == 2))) = rlm h ad (rs2 ls i v) := by
  unfold rlm rs2
  rw [List.map_cons, List.filter_map, rdl_eq2]
  congr 2
  apply List.filter_congr
  intro q _
  simp [Function.comp, rcat]
theorem rcs_cat {h : Nat} {ad : Nat → Nat} {st : List Value} : ((st.map (rcv h ad)).map fun v => v.category).sum = rcs st := by
  induction st with
  | nil => rfl
  | cons v r ih =>
    rw [List.map_cons, List.map_cons, List.sum_cons, ih, rcat]
    cases v <;> simp [Value.category, rcs, Nat.add_comm]
def rQc (D : va_G) (h : Nat) (ad : Nat → Nat) (cA : Nat → ClassId) (σ : RS) (sz : Nat) (post : Option Value → RS → Prop) : Array Value → State → Outcome → State → Prop := fun _ st oc t => (∃ (r : Option Value) (τ : RS), oc = .returned (r.map (rcv h ad)) ∧ post r τ ∧ rPost D h ad cA σ sz τ t) ∧ va_F (va_A (RW h ad cA σ) sz) st t
/-- a method of the reference keeps its contract: P of the arguments and the state, Q of the answer and the state behind it; lev: frames -/
def RMet (l : Launch) (lev μ : Nat) (P : RP) (Q : RQ) : Prop := ∃ r : RM, mtab[μ]? = some r ∧ ∀ (D : va_G) (h : Nat) (ad : Nat → Nat) (cA : Nat → ClassId) (σ : RS) (sz : Nat) (As : List Value), P As σ →
  Met l r.1 (wC r :: wG) { frames := lev, cells := 0, slots := 0, locals := 100 * lev } (va_Pc (.ref h :: As.map (rcv h ad)) (fun U => rPre D h ad cA σ sz U)) (rQc D h ad cA σ sz (Q As σ)) 0 0 (va_A (RW h ad cA σ) sz)
theorem va_freeAll {A0 : Nat → Prop} {ws : va_W} {H0 H : Heap} {locs : List Loc} (hD : va_D A0 ws) (hS : va_S A0 H0 H locs) (hA : ∀ q, H0.size ≤ q → A0 q) : ∀ q, va_A ws H.size q → A0 q := by
  intro q h
  rcases h with ⟨k, e, h⟩ | h
  · exact hD.2 k _ h
  · exact hA q (Nat.le_trans hS.1 h)
section RMS
variable {p : Program} {l : Launch} {e : Env} {R : Room} {s : State} {m : MethodId} {args : Array Value} {below : List Frame} {meth : Method} {c : Code} {H : Heap} {locs : List Loc} {cells slots : Nat} {Q : State → Prop}
theorem r_call {D : va_G} {h : Nat} {ad : Nat → Nat} {cA : Nat → ClassId} {σ : RS} {sz pc : Nat} {post : Option Value → RS → Prop} {ls : Array Slot} {rest st0 : List Value} {a : Array Value} {A0 : Nat → Prop} {H0 : Heap} {free : Addr → Prop}
    (hr : va_Run p l e R s m args below meth c H locs cells slots 0 0 (F0 m pc ls st0) rest (rQc D h ad cA σ sz post a) free) (hS : va_S A0 H0 H locs) (hA : ∀ q, q < H.size → va_A (RW h ad cA σ) sz q → A0 q) (hf : ∀ q, free q → A0 q)
    (kk : ∀ (r : Option Value) (τ : RS) (t : State) (H1 : Heap) (locs1 : List Loc), t.heap = H1 → s.vm.Alike t.vm → post r τ → rPost D h ad cA σ sz τ t → va_S A0 H0 H1 locs1 → W p l e R s m args below meth c H1 locs1 cells slots Q (F0 m (pc + 3) ls ((r.map (rcv h ad)).toList ++ rest))) : W p l e R s m args below meth c H locs cells slots Q (F0 m pc ls st0) := by
  intro T hT X
  obtain ⟨v, st₀, t, T', L, h0, X', hL, e1, e2, ⟨⟨r, u, hv, hp, hb⟩, hz, hk⟩, st⟩ := hr T hT X
  cases hv
  rw [h0] at hz hk
  obtain ⟨t2, a1, b1⟩ := kk r u t T'.heap (locs ++ L) e1.symm (by rw [← e2]; exact X'.warmed.alike) hp hb
    ⟨Nat.le_trans hS.1 (by rw [e1]; exact hz), fun q h1 h2 => by rw [e1, hk q (Nat.lt_of_lt_of_le h1 hS.1) (fun z => h2 (hA q (Nat.lt_of_lt_of_le h1 hS.1) z))]; exact hS.2.1 q h1 h2, fun q hq => by
      rcases List.mem_append.mp hq with h | h
      · exact hS.2.2 q h
      · exact hf _ (hL q h)⟩ T' rfl X'
  exact ⟨t2, st t2 a1, b1⟩
end RMS
section RSW
theorem rsw_tab {x lo : Int} {l : List (Int × Nat)} {d : Nat} {K : Nat → Prop} (h : rsw x l d K) (hl : ∀ (j : Nat) (q : Int × Nat), l[j]? = some q → q.1 = lo + j) : (∀ (j : Nat) (q : Int × Nat), l[j]? = some q → x = lo + j → K q.2) ∧ ((x < lo ∨ lo + l.length ≤ x) → K d) := by
  induction l generalizing lo with
  | nil => exact ⟨fun j q hq => by simp at hq, fun _ => h⟩
  | cons a r ih =>
    obtain ⟨h1, h2⟩ := h
    have ha : a.1 = lo := by have := hl 0 a rfl; simpa using this
    by_cases hx : x = a.1
    · refine ⟨fun j q hq hj => ?_, fun ho => ?_⟩
      · have hj0 : j = 0 := by omega
        subst hj0
        have : a = q := by simpa using hq
        subst this
        exact h1 hx
      · exfalso
        simp only [List.length_cons] at ho
        omega
    · obtain ⟨i1, i2⟩ := ih (lo := lo + 1) (h2 hx) (fun j q hq => by have := hl (j + 1) q (by simpa using hq); omega)
      refine ⟨fun j q hq hj => ?_, fun ho => i2 ?_⟩
      · cases j with
        | zero => exfalso; omega
        | succ j => exact i1 j q (by simpa using hq) (by omega)
      · simp only [List.length_cons] at ho
        omega
theorem rsw_look {x : Int} {l : List (Int × Nat)} {ps : List (Int × Int)} {d : Nat} {dd pc : Int} {K : Nat → Prop} (h : rsw x l d K) (hd : pc + dd = d) (hl : l.map (fun q => (q.1, (q.2 : Int))) = ps.map (fun q => (q.1, pc + q.2))) : ∃ t : Nat, pc + Op.lookupswitch.offset ps dd x = t ∧ K t := by
  induction l generalizing ps with
  | nil =>
    cases ps with
    | nil => exact ⟨d, hd, h⟩
    | cons b q => simp at hl
  | cons a r ih =>
    cases ps with
    | nil => simp at hl
    | cons b q =>
      simp only [List.map_cons, List.cons.injEq, Prod.mk.injEq] at hl
      obtain ⟨⟨e1, e2⟩, hl⟩ := hl
      obtain ⟨h1, h2⟩ := h
      obtain ⟨b1, b2⟩ := b
      rw [Op.lookupswitch.offset_cons]
      by_cases hx : x = a.1
      · rw [if_pos (by simp at e1; omega)]
        exact ⟨a.2, e2.symm, h1 hx⟩
      · rw [if_neg (by simp at e1; omega)]
        exact ih (h2 hx) hl
end RSW
theorem rcv_lt {h : Nat} {ad : Nat → Nat} {n : Nat} (hn : n < 150) : rcv h ad (.ref n) = .ref (ad n) := by
  have : Nat.beq n 1000 = false := by
    cases hb : Nat.beq n 1000 with
    | false => rfl
    | true => have := Nat.eq_of_beq_eq_true hb; omega
  show Value.ref (match Nat.beq n 1000 with
    | true => h
    | false => ad n) = _
  rw [this]
theorem ae_i {cA : Nat → ClassId} {ad : Nat → Nat} {σ : RS} {n : Nat} (hk : kd n = 3 ∨ kd n = 4) : ae cA ad σ n = (ad n, .inl (cA n, (ln n, .inl (aI σ n)))) := by
  unfold ae
  rcases hk with q | q <;> rw [q] <;> rfl
theorem ae_l {cA : Nat → ClassId} {ad : Nat → Nat} {σ : RS} {n : Nat} (hk : kd n = 5) : ae cA ad σ n = (ad n, .inl (cA n, (ln n, .inr (.inl (aL σ n))))) := by
  unfold ae
  rw [hk]
  rfl
theorem at_3 {n : Nat} (hk : kd n = 3) : at12 n = .int := by
  unfold at12
  rw [hk]
  rfl
theorem at_4 {n : Nat} (hk : kd n = 4) : at12 n = .boolean := by
  unfold at12
  rw [hk]
  rfl
theorem at_5 {n : Nat} (hk : kd n = 5) : at12 n = .long := by
  unfold at12
  rw [hk]
  rfl
theorem RW_ai {h : Nat} {ad : Nat → Nat} {cA : Nat → ClassId} {σ : RS} {n : Nat} (hk : kd n = 3 ∨ kd n = 4) : (RW h ad cA σ)[ap n + 1]? = some (ad n, .inl (cA n, (ln n, .inl (aI σ n)))) := by
  rw [RW_arr (ap_ok n (hk.elim (fun q => kd_lt q (by decide)) (fun q => kd_lt q (by decide))) (hk.elim Or.inl (fun q => Or.inr (Or.inl q)))), ae_i hk]
theorem RW_al {h : Nat} {ad : Nat → Nat} {cA : Nat → ClassId} {σ : RS} {n : Nat} (hk : kd n = 5) : (RW h ad cA σ)[ap n + 1]? = some (ad n, .inl (cA n, (ln n, .inr (.inl (aL σ n))))) := by
  rw [RW_arr (ap_ok n (kd_lt hk (by decide)) (Or.inr (Or.inr hk))), ae_l hk]
theorem RT_3 {cA : Nat → ClassId} {n : Nat} (hk : kd n = 3) : (RT cA)[ap n]? = some (cA n, .int) := by
  rw [RT_arr (ap_ok n (kd_lt hk (by decide)) (Or.inl hk)), at_3 hk]
theorem RT_4 {cA : Nat → ClassId} {n : Nat} (hk : kd n = 4) : (RT cA)[ap n]? = some (cA n, .boolean) := by
  rw [RT_arr (ap_ok n (kd_lt hk (by decide)) (Or.inr (Or.inl hk))), at_4 hk]
theorem RT_5 {cA : Nat → ClassId} {n : Nat} (hk : kd n = 5) : (RT cA)[ap n]? = some (cA n, .long) := by
  rw [RT_arr (ap_ok n (kd_lt hk (by decide)) (Or.inr (Or.inr hk))), at_5 hk]
theorem nar_b {v : Int32} (h : v = 0 ∨ v = 1) : vp_nar .boolean v = v := by
  rcases h with rfl | rfl <;> rfl
theorem rct_mem {ct : RC} {μ : Nat} {P : RP} {Q : RQ} (h : rct ct μ = some (P, Q)) : (μ, P, Q) ∈ ct := by
  induction ct with
  | nil => cases h
  | cons q r ih =>
    unfold rct at h
    cases hb : Nat.beq q.1 μ with
    | true =>
      rw [hb] at h
      have e1 : q.1 = μ := Nat.eq_of_beq_eq_true hb
      have e2 : q.2 = (P, Q) := Option.some.inj h
      subst e1
      rw [← e2]
      exact List.mem_cons_self
    | false =>
      rw [hb] at h
      exact List.mem_cons_of_mem _ (ih h)
theorem rlg_sl {h : Nat} {ad : Nat → Nat} (vs : List Value) : (lg_sl (vs.map (rcv h ad))).length = (lg_sl vs).length := by
  induction vs with
  | nil => rfl
  | cons v r ih =>
    unfold lg_sl at ih ⊢
    rw [List.map_cons, List.flatMap_cons, List.flatMap_cons, List.length_append, List.length_append, ih, rcat]
    by_cases hc : v.category = 2
    · simp [hc]
    · simp [hc]
theorem rlg_len {h : Nat} {ad : Nat → Nat} {As : List Value} : (lg_sl (Value.ref h :: As.map (rcv h ad))).length = (lg_sl (.ref 1000 :: As)).length := rlg_sl (h := h) (ad := ad) (.ref 1000 :: As)
theorem rlv_args {h : Nat} {ad : Nat → Nat} (vs : List Value) : ∀ i, rlm h ad (lv_args i vs) = lv_args i (vs.map (rcv h ad)) := by
  induction vs with
  | nil => intro i; rfl
  | cons v r ih =>
    intro i
    show (i, rcv h ad v) :: rlm h ad (lv_args (if v.category = 2 then i + 2 else i + 1) r) = (i, rcv h ad v) :: lv_args (if (rcv h ad v).category = 2 then i + 2 else i + 1) (r.map (rcv h ad))
    rw [ih, rcat]
theorem rlg_args {h : Nat} {ad : Nat → Nat} {As : List Value} : rlm h ad (lv_args 0 (.ref 1000 :: As)) = lv_args 0 (Value.ref h :: As.map (rcv h ad)) := rlv_args (.ref 1000 :: As) 0
