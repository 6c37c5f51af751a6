theorem lstC {σ : CsC} {q k a : Nat} (h : HI0 σ) (t : TyC σ q 7) (hk : [211, 212, 213, 214].elem k = true) (ha : fRC σ q k = some a) : TyC σ a 0 := by
  have z := ((h q t.1).1 k (by rw [t.2.1]; simp only [List.elem_eq_mem, List.mem_cons, List.not_mem_nil, or_false, decide_eq_true_eq] at hk; omega)).2
  rw [ha] at z
  simp only [List.elem_eq_mem, List.mem_cons, List.not_mem_nil, or_false, decide_eq_true_eq] at hk
  rcases hk with rfl | rfl | rfl | rfl <;> exact (z.resolve_left (by decide)).1
set_option maxRecDepth 100000 in
theorem recR (l : Launch) : ∀ n : Nat, CMetC l (13 * n + 31) 176 (P_X7_readCall n) (Q_X7_readCall n) ∧ CMetC l (13 * n + 31) 172 (P_X7_readAlone n) (Q_X7_readAlone n) ∧ CMetC l (13 * n + 31) 174 (P_X7_readBehindOpen n) (Q_X7_readBehindOpen n) ∧ CMetC l (13 * n + 32) 175 (P_X7_readName n) (Q_X7_readName n) ∧ CMetC l (13 * n + 33) 170 (P_X7_readOperand n) (Q_X7_readOperand n) ∧ CMetC l (13 * n + 34) 171 (P_X7_readInnerOperand n) (Q_X7_readInnerOperand n) ∧ CMetC l (13 * n + 34) 167 (P_X7_readChain n) (Q_X7_readChain n) ∧ CMetC l (13 * n + 35) 166 (P_X7_readChoice n) (Q_X7_readChoice n) ∧ CMetC l (13 * n + 35) 165 (P_X7_readAssignment n) (Q_X7_readAssignment n) ∧ CMetC l (13 * n + 36) 164 (P_X7_readExp n) (Q_X7_readExp n) ∧ CMetC l (13 * n + 37) 153 (P_X7_readCondition n) (Q_X7_readCondition n) ∧ CMetC l (13 * n + 37) 152 (P_X7_readExpStatement n) (Q_X7_readExpStatement n) ∧ CMetC l (13 * n + 37) 141 (P_X7_readVariable n) (Q_X7_readVariable n) ∧ CMetC l (13 * n + 37) 158 (P_X7_readForExps n) (Q_X7_readForExps n) ∧ CMetC l (13 * n + 37) 147 (P_X7_readCase n) (Q_X7_readCase n) ∧ CMetC l (13 * n + 37) 148 (P_X7_readInner n) (Q_X7_readInner n) ∧ CMetC l (13 * n + 37) 144 (P_X7_readBlock n) (Q_X7_readBlock n) ∧ CMetC l (13 * n + 38) 143 (P_X7_readBody n) (Q_X7_readBody n) ∧ CMetC l (13 * n + 38) 154 (P_X7_readIf n) (Q_X7_readIf n) ∧ CMetC l (13 * n + 38) 155 (P_X7_readWhile n) (Q_X7_readWhile n) ∧ CMetC l (13 * n + 38) 156 (P_X7_readDo n) (Q_X7_readDo n) ∧ CMetC l (13 * n + 38) 157 (P_X7_readFor n) (Q_X7_readFor n) ∧ CMetC l (13 * n + 38) 159 (P_X7_readSwitch n) (Q_X7_readSwitch n) ∧ CMetC l (13 * n + 38) 150 (P_X7_readSimple n) (Q_X7_readSimple n) ∧ CMetC l (13 * n + 38) 151 (P_X7_readLabel n) (Q_X7_readLabel n) ∧ CMetC l (13 * n + 39) 160 (P_X7_readTry n) (Q_X7_readTry n) ∧ CMetC l (13 * n + 40) 149 (P_X7_readStatement n) (Q_X7_readStatement n) ∧ CMetC l (13 * n + 41) 146 (P_X7_readRowPart n) (Q_X7_readRowPart n) ∧ CMetC l (13 * n + 42) 145 (P_X7_readRow n) (Q_X7_readRow n) := by
  intro n
  induction n with
  | zero =>
    have i_X7_readCall : CMetC l (13 * 0 + 31) 176 (P_X7_readCall 0) (Q_X7_readCall 0) := CMetC.no hX7_readCall (by rintro As σ ⟨p0, p1, rfl, H0, h_0_0, h_1_0, h_1_1, rd_cd, rd_at, rd_bl, rd_lv, rd_tk, rd_dp⟩; omega)
    have i_X7_readAlone : CMetC l (13 * 0 + 31) 172 (P_X7_readAlone 0) (Q_X7_readAlone 0) := CMetC.no hX7_readAlone (by rintro As σ ⟨p0, p1, rfl, H0, h_0_0, h_1_0, h_1_1, rd_cd, rd_at, rd_bl, rd_lv, rd_tk, rd_dp⟩; omega)
    have i_X7_readBehindOpen : CMetC l (13 * 0 + 31) 174 (P_X7_readBehindOpen 0) (Q_X7_readBehindOpen 0) := CMetC.no hX7_readBehindOpen (by rintro As σ ⟨p0, p1, rfl, H0, h_0_0, h_1_0, h_1_1, rd_cd, rd_at, rd_bl, rd_lv, rd_tk, rd_dp⟩; omega)
    have i_X7_readName : CMetC l (13 * 0 + 32) 175 (P_X7_readName 0) (Q_X7_readName 0) := s_X7_readName l 0 i_X7_readCall
    have i_X7_readOperand : CMetC l (13 * 0 + 33) 170 (P_X7_readOperand 0) (Q_X7_readOperand 0) := s_X7_readOperand l 0 i_X7_readBehindOpen i_X7_readAlone i_X7_readName
    have i_X7_readInnerOperand : CMetC l (13 * 0 + 34) 171 (P_X7_readInnerOperand 0) (Q_X7_readInnerOperand 0) := s_X7_readInnerOperand l 0 i_X7_readOperand
    have i_X7_readChain : CMetC l (13 * 0 + 34) 167 (P_X7_readChain 0) (Q_X7_readChain 0) := s_X7_readChain l 0 i_X7_readOperand
    have i_X7_readChoice : CMetC l (13 * 0 + 35) 166 (P_X7_readChoice 0) (Q_X7_readChoice 0) := CMetC.no hX7_readChoice (by rintro As σ ⟨p0, p1, rfl, H0, h_0_0, h_1_0, h_1_1, rd_cd, rd_at, rd_bg, rd_dp⟩; omega)
    have i_X7_readAssignment : CMetC l (13 * 0 + 35) 165 (P_X7_readAssignment 0) (Q_X7_readAssignment 0) := CMetC.no hX7_readAssignment (by rintro As σ ⟨p0, p1, rfl, H0, h_0_0, h_1_0, h_1_1, rd_cd, rd_at, rd_bl, rd_lv, rd_tk, rd_dp⟩; omega)
    have i_X7_readExp : CMetC l (13 * 0 + 36) 164 (P_X7_readExp 0) (Q_X7_readExp 0) := s_X7_readExp l 0 i_X7_readChoice i_X7_readAssignment
    have i_X7_readCondition : CMetC l (13 * 0 + 37) 153 (P_X7_readCondition 0) (Q_X7_readCondition 0) := s_X7_readCondition l 0 i_X7_readExp
    have i_X7_readExpStatement : CMetC l (13 * 0 + 37) 152 (P_X7_readExpStatement 0) (Q_X7_readExpStatement 0) := s_X7_readExpStatement l 0 i_X7_readExp
    have i_X7_readVariable : CMetC l (13 * 0 + 37) 141 (P_X7_readVariable 0) (Q_X7_readVariable 0) := s_X7_readVariable l 0 i_X7_readExp
    have i_X7_readForExps : CMetC l (13 * 0 + 37) 158 (P_X7_readForExps 0) (Q_X7_readForExps 0) := s_X7_readForExps l 0 i_X7_readExp
    have i_X7_readCase : CMetC l (13 * 0 + 37) 147 (P_X7_readCase 0) (Q_X7_readCase 0) := s_X7_readCase l 0 i_X7_readExp
    have i_X7_readInner : CMetC l (13 * 0 + 37) 148 (P_X7_readInner 0) (Q_X7_readInner 0) := CMetC.no hX7_readInner (by rintro As σ ⟨p0, p1, p2, rfl, H0, h_0_0, h_1_0, h_2_0, h_2_1, rd_cd, rd_at, rd_bg, rd_dp⟩; omega)
    have i_X7_readBlock : CMetC l (13 * 0 + 37) 144 (P_X7_readBlock 0) (Q_X7_readBlock 0) := CMetC.no hX7_readBlock (by rintro As σ ⟨p0, p1, p2, rfl, H0, h_0_0, h_1_0, h_2_0, h_2_1, rd_cd, rd_at, rd_bg, rd_dp, q0, q1⟩; omega)
    have i_X7_readBody : CMetC l (13 * 0 + 38) 143 (P_X7_readBody 0) (Q_X7_readBody 0) := s_X7_readBody l 0 i_X7_readBlock
    have i_X7_readIf : CMetC l (13 * 0 + 38) 154 (P_X7_readIf 0) (Q_X7_readIf 0) := s_X7_readIf l 0 i_X7_readCondition i_X7_readInner
    have i_X7_readWhile : CMetC l (13 * 0 + 38) 155 (P_X7_readWhile 0) (Q_X7_readWhile 0) := s_X7_readWhile l 0 i_X7_readCondition i_X7_readInner
    have i_X7_readDo : CMetC l (13 * 0 + 38) 156 (P_X7_readDo 0) (Q_X7_readDo 0) := s_X7_readDo l 0 i_X7_readInner i_X7_readCondition
    have i_X7_readFor : CMetC l (13 * 0 + 38) 157 (P_X7_readFor 0) (Q_X7_readFor 0) := s_X7_readFor l 0 i_X7_readVariable i_X7_readInner i_X7_readForExps i_X7_readExp
    have i_X7_readSwitch : CMetC l (13 * 0 + 38) 159 (P_X7_readSwitch 0) (Q_X7_readSwitch 0) := CMetC.no hX7_readSwitch (by rintro As σ ⟨p0, p1, rfl, H0, h_0_0, h_1_0, h_1_1, rd_cd, rd_at, rd_bl, rd_lv, rd_tk, rd_dp⟩; omega)
    have i_X7_readSimple : CMetC l (13 * 0 + 38) 150 (P_X7_readSimple 0) (Q_X7_readSimple 0) := s_X7_readSimple l 0 i_X7_readExp i_X7_readBlock
    have i_X7_readLabel : CMetC l (13 * 0 + 38) 151 (P_X7_readLabel 0) (Q_X7_readLabel 0) := s_X7_readLabel l 0 i_X7_readInner
    have i_X7_readTry : CMetC l (13 * 0 + 39) 160 (P_X7_readTry 0) (Q_X7_readTry 0) := s_X7_readTry l 0 i_X7_readBody
    have i_X7_readStatement : CMetC l (13 * 0 + 40) 149 (P_X7_readStatement 0) (Q_X7_readStatement 0) := s_X7_readStatement l 0 i_X7_readSimple i_X7_readIf i_X7_readWhile i_X7_readDo i_X7_readFor i_X7_readSwitch i_X7_readTry i_X7_readExpStatement i_X7_readLabel
    have i_X7_readRowPart : CMetC l (13 * 0 + 41) 146 (P_X7_readRowPart 0) (Q_X7_readRowPart 0) := s_X7_readRowPart l 0 i_X7_readVariable i_X7_readStatement i_X7_readCase
    have i_X7_readRow : CMetC l (13 * 0 + 42) 145 (P_X7_readRow 0) (Q_X7_readRow 0) := s_X7_readRow l 0 i_X7_readRowPart
    exact ⟨i_X7_readCall, i_X7_readAlone, i_X7_readBehindOpen, i_X7_readName, i_X7_readOperand, i_X7_readInnerOperand, i_X7_readChain, i_X7_readChoice, i_X7_readAssignment, i_X7_readExp, i_X7_readCondition, i_X7_readExpStatement, i_X7_readVariable, i_X7_readForExps, i_X7_readCase, i_X7_readInner, i_X7_readBlock, i_X7_readBody, i_X7_readIf, i_X7_readWhile, i_X7_readDo, i_X7_readFor, i_X7_readSwitch, i_X7_readSimple, i_X7_readLabel, i_X7_readTry, i_X7_readStatement, i_X7_readRowPart, i_X7_readRow⟩
  | succ d ih =>
    obtain ⟨o_X7_readCall, o_X7_readAlone, o_X7_readBehindOpen, o_X7_readName, o_X7_readOperand, o_X7_readInnerOperand, o_X7_readChain, o_X7_readChoice, o_X7_readAssignment, o_X7_readExp, o_X7_readCondition, o_X7_readExpStatement, o_X7_readVariable, o_X7_readForExps, o_X7_readCase, o_X7_readInner, o_X7_readBlock, o_X7_readBody, o_X7_readIf, o_X7_readWhile, o_X7_readDo, o_X7_readFor, o_X7_readSwitch, o_X7_readSimple, o_X7_readLabel, o_X7_readTry, o_X7_readStatement, o_X7_readRowPart, o_X7_readRow⟩ := ih
    have i_X7_readCall : CMetC l (13 * (d + 1) + 31) 176 (P_X7_readCall (d + 1)) (Q_X7_readCall (d + 1)) := s_X7_readCall l d o_X7_readExp
    have i_X7_readAlone : CMetC l (13 * (d + 1) + 31) 172 (P_X7_readAlone (d + 1)) (Q_X7_readAlone (d + 1)) := s_X7_readAlone l d o_X7_readInnerOperand
    have i_X7_readBehindOpen : CMetC l (13 * (d + 1) + 31) 174 (P_X7_readBehindOpen (d + 1)) (Q_X7_readBehindOpen (d + 1)) := s_X7_readBehindOpen l d o_X7_readExp o_X7_readInnerOperand
    have i_X7_readName : CMetC l (13 * (d + 1) + 32) 175 (P_X7_readName (d + 1)) (Q_X7_readName (d + 1)) := s_X7_readName l (d + 1) i_X7_readCall
    have i_X7_readOperand : CMetC l (13 * (d + 1) + 33) 170 (P_X7_readOperand (d + 1)) (Q_X7_readOperand (d + 1)) := s_X7_readOperand l (d + 1) i_X7_readBehindOpen i_X7_readAlone i_X7_readName
    have i_X7_readInnerOperand : CMetC l (13 * (d + 1) + 34) 171 (P_X7_readInnerOperand (d + 1)) (Q_X7_readInnerOperand (d + 1)) := s_X7_readInnerOperand l (d + 1) i_X7_readOperand
    have i_X7_readChain : CMetC l (13 * (d + 1) + 34) 167 (P_X7_readChain (d + 1)) (Q_X7_readChain (d + 1)) := s_X7_readChain l (d + 1) i_X7_readOperand
    have i_X7_readChoice : CMetC l (13 * (d + 1) + 35) 166 (P_X7_readChoice (d + 1)) (Q_X7_readChoice (d + 1)) := s_X7_readChoice l d i_X7_readChain o_X7_readExp o_X7_readChoice
    have i_X7_readAssignment : CMetC l (13 * (d + 1) + 35) 165 (P_X7_readAssignment (d + 1)) (Q_X7_readAssignment (d + 1)) := s_X7_readAssignment l d o_X7_readExp
    have i_X7_readExp : CMetC l (13 * (d + 1) + 36) 164 (P_X7_readExp (d + 1)) (Q_X7_readExp (d + 1)) := s_X7_readExp l (d + 1) i_X7_readChoice i_X7_readAssignment
    have i_X7_readCondition : CMetC l (13 * (d + 1) + 37) 153 (P_X7_readCondition (d + 1)) (Q_X7_readCondition (d + 1)) := s_X7_readCondition l (d + 1) i_X7_readExp
    have i_X7_readExpStatement : CMetC l (13 * (d + 1) + 37) 152 (P_X7_readExpStatement (d + 1)) (Q_X7_readExpStatement (d + 1)) := s_X7_readExpStatement l (d + 1) i_X7_readExp
    have i_X7_readVariable : CMetC l (13 * (d + 1) + 37) 141 (P_X7_readVariable (d + 1)) (Q_X7_readVariable (d + 1)) := s_X7_readVariable l (d + 1) i_X7_readExp
    have i_X7_readForExps : CMetC l (13 * (d + 1) + 37) 158 (P_X7_readForExps (d + 1)) (Q_X7_readForExps (d + 1)) := s_X7_readForExps l (d + 1) i_X7_readExp
    have i_X7_readCase : CMetC l (13 * (d + 1) + 37) 147 (P_X7_readCase (d + 1)) (Q_X7_readCase (d + 1)) := s_X7_readCase l (d + 1) i_X7_readExp
    have i_X7_readInner : CMetC l (13 * (d + 1) + 37) 148 (P_X7_readInner (d + 1)) (Q_X7_readInner (d + 1)) := s_X7_readInner l d o_X7_readStatement
    have i_X7_readBlock : CMetC l (13 * (d + 1) + 37) 144 (P_X7_readBlock (d + 1)) (Q_X7_readBlock (d + 1)) := s_X7_readBlock l d o_X7_readRow
    have i_X7_readBody : CMetC l (13 * (d + 1) + 38) 143 (P_X7_readBody (d + 1)) (Q_X7_readBody (d + 1)) := s_X7_readBody l (d + 1) i_X7_readBlock
    have i_X7_readIf : CMetC l (13 * (d + 1) + 38) 154 (P_X7_readIf (d + 1)) (Q_X7_readIf (d + 1)) := s_X7_readIf l (d + 1) i_X7_readCondition i_X7_readInner
    have i_X7_readWhile : CMetC l (13 * (d + 1) + 38) 155 (P_X7_readWhile (d + 1)) (Q_X7_readWhile (d + 1)) := s_X7_readWhile l (d + 1) i_X7_readCondition i_X7_readInner
    have i_X7_readDo : CMetC l (13 * (d + 1) + 38) 156 (P_X7_readDo (d + 1)) (Q_X7_readDo (d + 1)) := s_X7_readDo l (d + 1) i_X7_readInner i_X7_readCondition
    have i_X7_readFor : CMetC l (13 * (d + 1) + 38) 157 (P_X7_readFor (d + 1)) (Q_X7_readFor (d + 1)) := s_X7_readFor l (d + 1) i_X7_readVariable i_X7_readInner i_X7_readForExps i_X7_readExp
    have i_X7_readSwitch : CMetC l (13 * (d + 1) + 38) 159 (P_X7_readSwitch (d + 1)) (Q_X7_readSwitch (d + 1)) := s_X7_readSwitch l d i_X7_readCondition o_X7_readRow
    have i_X7_readSimple : CMetC l (13 * (d + 1) + 38) 150 (P_X7_readSimple (d + 1)) (Q_X7_readSimple (d + 1)) := s_X7_readSimple l (d + 1) i_X7_readExp i_X7_readBlock
    have i_X7_readLabel : CMetC l (13 * (d + 1) + 38) 151 (P_X7_readLabel (d + 1)) (Q_X7_readLabel (d + 1)) := s_X7_readLabel l (d + 1) i_X7_readInner
    have i_X7_readTry : CMetC l (13 * (d + 1) + 39) 160 (P_X7_readTry (d + 1)) (Q_X7_readTry (d + 1)) := s_X7_readTry l (d + 1) i_X7_readBody
    have i_X7_readStatement : CMetC l (13 * (d + 1) + 40) 149 (P_X7_readStatement (d + 1)) (Q_X7_readStatement (d + 1)) := s_X7_readStatement l (d + 1) i_X7_readSimple i_X7_readIf i_X7_readWhile i_X7_readDo i_X7_readFor i_X7_readSwitch i_X7_readTry i_X7_readExpStatement i_X7_readLabel
    have i_X7_readRowPart : CMetC l (13 * (d + 1) + 41) 146 (P_X7_readRowPart (d + 1)) (Q_X7_readRowPart (d + 1)) := s_X7_readRowPart l (d + 1) i_X7_readVariable i_X7_readStatement i_X7_readCase
    have i_X7_readRow : CMetC l (13 * (d + 1) + 42) 145 (P_X7_readRow (d + 1)) (Q_X7_readRow (d + 1)) := s_X7_readRow l (d + 1) i_X7_readRowPart
    exact ⟨i_X7_readCall, i_X7_readAlone, i_X7_readBehindOpen, i_X7_readName, i_X7_readOperand, i_X7_readInnerOperand, i_X7_readChain, i_X7_readChoice, i_X7_readAssignment, i_X7_readExp, i_X7_readCondition, i_X7_readExpStatement, i_X7_readVariable, i_X7_readForExps, i_X7_readCase, i_X7_readInner, i_X7_readBlock, i_X7_readBody, i_X7_readIf, i_X7_readWhile, i_X7_readDo, i_X7_readFor, i_X7_readSwitch, i_X7_readSimple, i_X7_readLabel, i_X7_readTry, i_X7_readStatement, i_X7_readRowPart, i_X7_readRow⟩
theorem m_X7_readCall (l : Launch) (n : Nat) : CMetC l (13 * n + 31) 176 (P_X7_readCall n) (Q_X7_readCall n) := (recR l n).1
theorem m_X7_readAlone (l : Launch) (n : Nat) : CMetC l (13 * n + 31) 172 (P_X7_readAlone n) (Q_X7_readAlone n) := (recR l n).2.1
theorem m_X7_readBehindOpen (l : Launch) (n : Nat) : CMetC l (13 * n + 31) 174 (P_X7_readBehindOpen n) (Q_X7_readBehindOpen n) := (recR l n).2.2.1
theorem m_X7_readName (l : Launch) (n : Nat) : CMetC l (13 * n + 32) 175 (P_X7_readName n) (Q_X7_readName n) := (recR l n).2.2.2.1
theorem m_X7_readOperand (l : Launch) (n : Nat) : CMetC l (13 * n + 33) 170 (P_X7_readOperand n) (Q_X7_readOperand n) := (recR l n).2.2.2.2.1
theorem m_X7_readInnerOperand (l : Launch) (n : Nat) : CMetC l (13 * n + 34) 171 (P_X7_readInnerOperand n) (Q_X7_readInnerOperand n) := (recR l n).2.2.2.2.2.1
theorem m_X7_readChain (l : Launch) (n : Nat) : CMetC l (13 * n + 34) 167 (P_X7_readChain n) (Q_X7_readChain n) := (recR l n).2.2.2.2.2.2.1
theorem m_X7_readChoice (l : Launch) (n : Nat) : CMetC l (13 * n + 35) 166 (P_X7_readChoice n) (Q_X7_readChoice n) := (recR l n).2.2.2.2.2.2.2.1
theorem m_X7_readAssignment (l : Launch) (n : Nat) : CMetC l (13 * n + 35) 165 (P_X7_readAssignment n) (Q_X7_readAssignment n) := (recR l n).2.2.2.2.2.2.2.2.1
theorem m_X7_readExp (l : Launch) (n : Nat) : CMetC l (13 * n + 36) 164 (P_X7_readExp n) (Q_X7_readExp n) := (recR l n).2.2.2.2.2.2.2.2.2.1
theorem m_X7_readCondition (l : Launch) (n : Nat) : CMetC l (13 * n + 37) 153 (P_X7_readCondition n) (Q_X7_readCondition n) := (recR l n).2.2.2.2.2.2.2.2.2.2.1
theorem m_X7_readExpStatement (l : Launch) (n : Nat) : CMetC l (13 * n + 37) 152 (P_X7_readExpStatement n) (Q_X7_readExpStatement n) := (recR l n).2.2.2.2.2.2.2.2.2.2.2.1
theorem m_X7_readVariable (l : Launch) (n : Nat) : CMetC l (13 * n + 37) 141 (P_X7_readVariable n) (Q_X7_readVariable n) := (recR l n).2.2.2.2.2.2.2.2.2.2.2.2.1
theorem m_X7_readForExps (l : Launch) (n : Nat) : CMetC l (13 * n + 37) 158 (P_X7_readForExps n) (Q_X7_readForExps n) := (recR l n).2.2.2.2.2.2.2.2.2.2.2.2.2.1
theorem m_X7_readCase (l : Launch) (n : Nat) : CMetC l (13 * n + 37) 147 (P_X7_readCase n) (Q_X7_readCase n) := (recR l n).2.2.2.2.2.2.2.2.2.2.2.2.2.2.1
theorem m_X7_readInner (l : Launch) (n : Nat) : CMetC l (13 * n + 37) 148 (P_X7_readInner n) (Q_X7_readInner n) := (recR l n).2.2.2.2.2.2.2.2.2.2.2.2.2.2.2.1
theorem m_X7_readBlock (l : Launch) (n : Nat) : CMetC l (13 * n + 37) 144 (P_X7_readBlock n) (Q_X7_readBlock n) := (recR l n).2.2.2.2.2.2.2.2.2.2.2.2.2.2.2.2.1
theorem m_X7_readBody (l : Launch) (n : Nat) : CMetC l (13 * n + 38) 143 (P_X7_readBody n) (Q_X7_readBody n) := (recR l n).2.2.2.2.2.2.2.2.2.2.2.2.2.2.2.2.2.1
theorem m_X7_readIf (l : Launch) (n : Nat) : CMetC l (13 * n + 38) 154 (P_X7_readIf n) (Q_X7_readIf n) := (recR l n).2.2.2.2.2.2.2.2.2.2.2.2.2.2.2.2.2.2.1
theorem m_X7_readWhile (l : Launch) (n : Nat) : CMetC l (13 * n + 38) 155 (P_X7_readWhile n) (Q_X7_readWhile n) := (recR l n).2.2.2.2.2.2.2.2.2.2.2.2.2.2.2.2.2.2.2.1
theorem m_X7_readDo (l : Launch) (n : Nat) : CMetC l (13 * n + 38) 156 (P_X7_readDo n) (Q_X7_readDo n) := (recR l n).2.2.2.2.2.2.2.2.2.2.2.2.2.2.2.2.2.2.2.2.1
theorem m_X7_readFor (l : Launch) (n : Nat) : CMetC l (13 * n + 38) 157 (P_X7_readFor n) (Q_X7_readFor n) := (recR l n).2.2.2.2.2.2.2.2.2.2.2.2.2.2.2.2.2.2.2.2.2.1
theorem m_X7_readSwitch (l : Launch) (n : Nat) : CMetC l (13 * n + 38) 159 (P_X7_readSwitch n) (Q_X7_readSwitch n) := (recR l n).2.2.2.2.2.2.2.2.2.2.2.2.2.2.2.2.2.2.2.2.2.2.1
theorem m_X7_readSimple (l : Launch) (n : Nat) : CMetC l (13 * n + 38) 150 (P_X7_readSimple n) (Q_X7_readSimple n) := (recR l n).2.2.2.2.2.2.2.2.2.2.2.2.2.2.2.2.2.2.2.2.2.2.2.1
theorem m_X7_readLabel (l : Launch) (n : Nat) : CMetC l (13 * n + 38) 151 (P_X7_readLabel n) (Q_X7_readLabel n) := (recR l n).2.2.2.2.2.2.2.2.2.2.2.2.2.2.2.2.2.2.2.2.2.2.2.2.1
theorem m_X7_readTry (l : Launch) (n : Nat) : CMetC l (13 * n + 39) 160 (P_X7_readTry n) (Q_X7_readTry n) := (recR l n).2.2.2.2.2.2.2.2.2.2.2.2.2.2.2.2.2.2.2.2.2.2.2.2.2.1
theorem m_X7_readStatement (l : Launch) (n : Nat) : CMetC l (13 * n + 40) 149 (P_X7_readStatement n) (Q_X7_readStatement n) := (recR l n).2.2.2.2.2.2.2.2.2.2.2.2.2.2.2.2.2.2.2.2.2.2.2.2.2.2.1
theorem m_X7_readRowPart (l : Launch) (n : Nat) : CMetC l (13 * n + 41) 146 (P_X7_readRowPart n) (Q_X7_readRowPart n) := (recR l n).2.2.2.2.2.2.2.2.2.2.2.2.2.2.2.2.2.2.2.2.2.2.2.2.2.2.2.1
theorem m_X7_readRow (l : Launch) (n : Nat) : CMetC l (13 * n + 42) 145 (P_X7_readRow n) (Q_X7_readRow n) := (recR l n).2.2.2.2.2.2.2.2.2.2.2.2.2.2.2.2.2.2.2.2.2.2.2.2.2.2.2.2
abbrev P_X7_readParams : CpC := fun As σ => ∃ (p0 : Nat) (p1 : Nat), As = [.inr (.inr (some p0)), .inr (.inr (some p1))] ∧ HIC σ ∧ TyC σ p0 8 ∧ TyC σ p1 6 ∧ CdC σ p0 ∧ (fIC σ p0 242).toInt ≤ CtC σ p0 ∧ BgC σ p0 (10) (0)
abbrev Q_X7_readParams : CqC := fun As σ w τ => match As with
  | [.inr (.inr (some p0)), .inr (.inr (some p1))] => w = none ∧ HIC τ ∧ ExC [0, 1, 2, 185, 242, 243, 244, 330, 331, 332, 333, 334, 999] σ τ ∧ RdC p0 none (0) (10) (0) σ τ
  | _ => False
set_option maxRecDepth 100000 in
set_option maxHeartbeats 4000000 in
theorem m_X7_readParams (l : Launch) : CMetC l 13 135 P_X7_readParams Q_X7_readParams := by
  refine CMetC.of KX7_readParams [(129, P_X7_expect, Q_X7_expect), (125, P_X7_code, Q_X7_code), (130, P_X7_takes, Q_X7_takes), (136, P_X7_readType, Q_X7_readType), (137, P_X7_declare, Q_X7_declare), (138, P_X7_know, Q_X7_know), (112, P_X5_addParam, Q_X5_addParam)] hX7_readParams (by decide) (by decide) okX7_readParams (cc1C (m_X7_expect l) (by decide) (cc1C (m_X7_code l) (by decide) (cc1C (m_X7_takes l) (by decide) (cc1C (m_X7_readType l) (by decide) (cc1C (m_X7_declare l) (by decide) (cc1C (m_X7_know l) (by decide) (cc1C (m_X5_addParam l) (by decide) cc0C))))))) ?_ ?_
  · rintro As σ ⟨p0, p1, rfl, -⟩
    exact Nat.le_of_ble_eq_true rfl
  · rintro As σ0 ⟨p0, p1, rfl, H0, h_0_0, h_1_0, rd_cd, rd_at, rd_bg⟩ hgr G hB hW
    change G 0 [(0, .inr (.inr (some p0))), (1, .inr (.inr (some p1)))] [] σ0
    obtain ⟨x1, e2, c3, h4, h5⟩ := cg242 H0.1 h_0_0
    obtain ⟨x6, e7, c8, h9, h10⟩ := cg243 H0.1 h_0_0
    have z11 := congrArg Int32.toInt c3
    have z12 := congrArg Int32.toInt c8
    have L17 : ∀ (n17 : Nat), ∀ (σ13 : CsC) (v17_2 : Int32) (v17_3 : Int32), (2147483647 - v17_3.toInt).toNat = n17 → HIC σ13 → ExC [0, 1, 2, 185, 242, 243, 244, 330, 331, 332, 333, 334, 999] σ0 σ13 → RdC p0 none (-8) (0) (0) σ0 σ13 → 0 ≤ v17_2.toInt → v17_2.toInt ≤ 1 → 0 ≤ v17_3.toInt → v17_3.toInt ≤ 10 → G 17 [(0, .inr (.inr (some p0))), (1, .inr (.inr (some p1))), (2, .inl v17_2), (3, .inl v17_3)] [] σ13 := by
      intro n17
      induction n17 using Nat.strongRecOn with
      | _ n17 ih17 =>
        intro σ13 v17_2 v17_3 n17_ H14 e15 R16 h17 h18 h19 h20
        have t26 := h_0_0.x e15
        obtain ⟨x21, e22, c23, h24, h25⟩ := cg242 H14.1 t26
        obtain ⟨x27, e28, c29, h30, h31⟩ := cg243 H14.1 t26
        have z32 := congrArg Int32.toInt c23
        have z33 := congrArg Int32.toInt c29
        refine hB _ _ _ _ (kgoC (is := KX7_readParams_17) rfl ?_)
        refine k_iload_n rfl ?_
        refine k_if_eq (fun h34 => ?_) (fun h34 => ?_)
        · refine hB _ _ _ _ (kgoC (is := KX7_readParams_89) rfl ?_)
          refine k_aload_n rfl ?_
          refine k_iconst (m := 1) rfl (fun x35 h36 => ?_)
          have X37 : ExC [0, 1, 2, 185, 242, 243, 244, 330, 331, 332, 333, 334, 999] σ0 σ13 := ExC.rf.tr (e15.mo (by decide))
          refine k_inv (P := P_X7_expect) (Q := Q_X7_expect) rfl rfl rfl rfl (Nat.le_of_ble_eq_true rfl) (t26.rc (by decide)) ⟨_, _, rfl, H14, t26, (by omega), (by omega), (rd_cd.st H0 h_0_0 X37 R16.1 (by decide)), (R16.2.2.2.1 rd_at), (rd_bg.st H0 h_0_0 X37 R16 (by decide) (by omega) (by omega) (by omega))⟩ (fun w38 σ39 q40 => ?_)
          obtain ⟨rfl, H41, e42, R43, q44⟩ := q40
          have t50 := t26.x e42
          obtain ⟨x45, e46, c47, h48, h49⟩ := cg242 H41.1 t50
          obtain ⟨x51, e52, c53, h54, h55⟩ := cg243 H41.1 t50
          have z56 := congrArg Int32.toInt c47
          have z57 := congrArg Int32.toInt c53
          refine k_st (st' := []) rfl ?_
          have R58 : RdC p0 none (-16) (0) (0) σ0 σ39 := R16.tr ⟨R43.1, R43.2⟩ (by omega) (by omega) (by omega) (by omega)
          have z59 := R58.2.2.1
          have z60 := R58.2.2.2.1 rd_at
          refine k_return ?_
          have X61 : ExC [0, 1, 2, 185, 242, 243, 244, 330, 331, 332, 333, 334, 999] σ0 σ39 := X37.tr (e42.mo (by decide))
          exact ⟨rfl, H41, X61, (R58.mo (by omega) (by omega) (by omega))⟩
        · refine k_nil ?_
          refine hB _ _ _ _ (kgoC (is := KX7_readParams_21) rfl ?_)
          refine k_iload_n rfl ?_
          refine k_bipush (m := 6) rfl (fun x62 h63 => ?_)
          refine k_ic_gt (fun h64 => ?_) (fun h64 => ?_)
          · refine hB _ _ _ _ (kgoC (is := KX7_readParams_89) rfl ?_)
            refine k_aload_n rfl ?_
            refine k_iconst (m := 1) rfl (fun x65 h66 => ?_)
            have X67 : ExC [0, 1, 2, 185, 242, 243, 244, 330, 331, 332, 333, 334, 999] σ0 σ13 := ExC.rf.tr (e15.mo (by decide))
            refine k_inv (P := P_X7_expect) (Q := Q_X7_expect) rfl rfl rfl rfl (Nat.le_of_ble_eq_true rfl) (t26.rc (by decide)) ⟨_, _, rfl, H14, t26, (by omega), (by omega), (rd_cd.st H0 h_0_0 X67 R16.1 (by decide)), (R16.2.2.2.1 rd_at), (rd_bg.st H0 h_0_0 X67 R16 (by decide) (by omega) (by omega) (by omega))⟩ (fun w68 σ69 q70 => ?_)
            obtain ⟨rfl, H71, e72, R73, q74⟩ := q70
            have t80 := t26.x e72
            obtain ⟨x75, e76, c77, h78, h79⟩ := cg242 H71.1 t80
            obtain ⟨x81, e82, c83, h84, h85⟩ := cg243 H71.1 t80
            have z86 := congrArg Int32.toInt c77
            have z87 := congrArg Int32.toInt c83
            refine k_st (st' := []) rfl ?_
            have R88 : RdC p0 none (-16) (0) (0) σ0 σ69 := R16.tr ⟨R73.1, R73.2⟩ (by omega) (by omega) (by omega) (by omega)
            have z89 := R88.2.2.1
            have z90 := R88.2.2.2.1 rd_at
            refine k_return ?_
            have X91 : ExC [0, 1, 2, 185, 242, 243, 244, 330, 331, 332, 333, 334, 999] σ0 σ69 := X67.tr (e72.mo (by decide))
            exact ⟨rfl, H71, X91, (R88.mo (by omega) (by omega) (by omega))⟩
          · refine k_nil ?_
            refine hB _ _ _ _ (kgoC (is := KX7_readParams_27) rfl ?_)
            refine k_aload_n rfl ?_
            refine k_bipush (m := 71) rfl (fun x92 h93 => ?_)
            have X94 : ExC [0, 1, 2, 185, 242, 243, 244, 330, 331, 332, 333, 334, 999] σ0 σ13 := ExC.rf.tr (e15.mo (by decide))
            refine k_inv (P := P_X7_takes) (Q := Q_X7_takes) rfl rfl rfl rfl (Nat.le_of_ble_eq_true rfl) (t26.rc (by decide)) ⟨_, _, rfl, H14, t26, (by omega), (by omega), (rd_cd.st H0 h_0_0 X94 R16.1 (by decide)), (R16.2.2.2.1 rd_at), (rd_bg.st H0 h_0_0 X94 R16 (by decide) (by omega) (by omega) (by omega))⟩ (fun w95 σ96 q97 => ?_)
            obtain ⟨x98, rfl, H99, e100, h102, h103, R101, q104⟩ := q97
            have t110 := t26.x e100
            obtain ⟨x105, e106, c107, h108, h109⟩ := cg242 H99.1 t110
            obtain ⟨x111, e112, c113, h114, h115⟩ := cg243 H99.1 t110
            have z116 := congrArg Int32.toInt c107
            have z117 := congrArg Int32.toInt c113
            refine k_st (st' := [.inl x98]) rfl ?_
            rcases (by omega : x98.toInt = 0 ∨ x98.toInt = 1) with g118 | g118
            · have R119 : RdC p0 none (-8) (0) (0) σ0 σ96 := R16.tr ⟨R101.1, R101.2⟩ (by omega) (by omega) (by omega) (by omega)
              have z120 := R119.2.2.1
              have z121 := R119.2.2.2.1 rd_at
              refine k_istore (ls' := [(4, .inl x98), (0, .inr (.inr (some p0))), (1, .inr (.inr (some p1))), (2, .inl v17_2), (3, .inl v17_3)]) rfl ?_
              refine k_aload_n rfl ?_
              have X122 : ExC [0, 1, 2, 185, 242, 243, 244, 330, 331, 332, 333, 334, 999] σ0 σ96 := X94.tr (e100.mo (by decide))
              refine k_inv (P := P_X7_readType) (Q := Q_X7_readType) rfl rfl rfl rfl (Nat.le_of_ble_eq_true rfl) (t110.rc (by decide)) ⟨_, rfl, H99, t110, (rd_cd.st H0 h_0_0 X122 R119.1 (by decide)), (R119.2.2.2.1 rd_at), (rd_bg.st H0 h_0_0 X122 R119 (by decide) (by omega) (by omega) (by omega))⟩ (fun w123 σ124 q125 => ?_)
              obtain ⟨x126, rfl, H127, e128, R129⟩ := q125
              have t135 := t110.x e128
              obtain ⟨x130, e131, c132, h133, h134⟩ := cg242 H127.1 t135
              obtain ⟨x136, e137, c138, h139, h140⟩ := cg243 H127.1 t135
              have z141 := congrArg Int32.toInt c132
              have z142 := congrArg Int32.toInt c138
              refine k_st (st' := [.inl x126]) rfl ?_
              refine k_istore (ls' := [(5, .inl x126), (4, .inl x98), (0, .inr (.inr (some p0))), (1, .inr (.inr (some p1))), (2, .inl v17_2), (3, .inl v17_3)]) rfl ?_
              refine k_aload_n rfl ?_
              refine k_iload rfl ?_
              refine k_iload rfl ?_
              refine k_aload_n rfl ?_
              have t143 := h_1_0.x e15
              have t144 := t143.x e100
              have t145 := t144.x e128
              obtain ⟨x148, e146, c147, h149, h150⟩ := cg185 H127.1 t145
              refine k_get kg185 t145 e146 ?_
              refine k_bipush (m := 6) rfl (fun x151 h152 => ?_)
              refine k_ic_ge (fun h153 => ?_) (fun h153 => ?_)
              · refine hB _ _ _ _ (kgoC (is := KX7_readParams_59) rfl ?_)
                refine k_iconst (m := 0) rfl (fun x154 h155 => ?_)
                refine k_nil ?_
                refine hB _ _ _ _ (kgoC (is := KX7_readParams_60) rfl ?_)
                have R156 : RdC p0 none (-16) (0) (0) σ0 σ124 := R119.tr ⟨R129.1, R129.2⟩ (by omega) (by omega) (by omega) (by omega)
                have X157 : ExC [0, 1, 2, 185, 242, 243, 244, 330, 331, 332, 333, 334, 999] σ0 σ124 := X122.tr (e128.mo (by decide))
                refine k_inv (P := P_X7_declare) (Q := Q_X7_declare) rfl rfl rfl rfl (Nat.le_of_ble_eq_true rfl) (t135.rc (by decide)) ⟨_, _, _, _, rfl, H127, t135, (by omega), (by omega), (by omega), (by omega), (rd_cd.st H0 h_0_0 X157 R156.1 (by decide)), (R156.2.2.2.1 rd_at), (rd_bg.st H0 h_0_0 X157 R156 (by decide) (by omega) (by omega) (by omega))⟩ (fun w158 σ159 q160 => ?_)
                obtain ⟨x161, rfl, H162, e163, h165, h166, R164⟩ := q160
                have t172 := t135.x e163
                obtain ⟨x167, e168, c169, h170, h171⟩ := cg242 H162.1 t172
                obtain ⟨x173, e174, c175, h176, h177⟩ := cg243 H162.1 t172
                have z178 := congrArg Int32.toInt c169
                have z179 := congrArg Int32.toInt c175
                refine k_st (st' := [.inl x161]) rfl ?_
                refine k_istore (ls' := [(6, .inl x161), (5, .inl x126), (4, .inl x98), (0, .inr (.inr (some p0))), (1, .inr (.inr (some p1))), (2, .inl v17_2), (3, .inl v17_3)]) rfl ?_
                refine k_aload_n rfl ?_
                refine k_iload rfl ?_
                refine k_inv (P := P_X7_know) (Q := Q_X7_know) rfl rfl rfl rfl (Nat.le_of_ble_eq_true rfl) (t172.rc (by decide)) ⟨_, _, rfl, H162, t172⟩ (fun w180 σ181 q182 => ?_)
                obtain ⟨rfl, H183, e184⟩ := q182
                have c185 := (t172.mi e184 (by decide)).trans c169
                have c186 := (t172.mi e184 (by decide)).trans c175
                have z187 := congrArg Int32.toInt c185
                have z188 := congrArg Int32.toInt c186
                refine k_st (st' := []) rfl ?_
                refine k_aload_n rfl ?_
                refine k_iload rfl ?_
                have t189 := t145.x e163
                have t190 := t189.x e184
                refine k_inv (P := P_X5_addParam) (Q := Q_X5_addParam) rfl rfl rfl rfl (Nat.le_of_ble_eq_true rfl) (t190.rc (by decide)) ⟨_, _, rfl, H183, t190⟩ (fun w191 σ192 q193 => ?_)
                obtain ⟨rfl, H194, e195⟩ := q193
                have t196 := t172.x e184
                have c197 := (t196.mi e195 (by decide)).trans c185
                have c198 := (t196.mi e195 (by decide)).trans c186
                have z199 := congrArg Int32.toInt c197
                have z200 := congrArg Int32.toInt c198
                refine k_st (st' := []) rfl ?_
                refine k_aload_n rfl ?_
                refine k_iconst (m := 5) rfl (fun x201 h202 => ?_)
                have t203 := t196.x e195
                have R204 : RdC p0 none (-22) (0) (0) σ0 σ159 := R156.tr ⟨R164.1, R164.2⟩ (by omega) (by omega) (by omega) (by omega)
                have R205 : RdC p0 none (-22) (0) (0) σ0 σ181 := R204.tr ⟨(e184.gw H162.1 (by decide)), (e184.cou (u := 0) H162.1 t172 (by decide) (by rw [e184.cn (by decide)]; omega))⟩ (by omega) (by omega) (by omega) (by omega)
                have R206 : RdC p0 none (-22) (0) (0) σ0 σ192 := R205.tr ⟨(e195.gw H183.1 (by decide)), (e195.cou (u := 0) H183.1 t196 (by decide) (by rw [e195.cn (by decide)]; omega))⟩ (by omega) (by omega) (by omega) (by omega)
                have X207 : ExC [0, 1, 2, 185, 242, 243, 244, 330, 331, 332, 333, 334, 999] σ0 σ159 := X157.tr (e163.mo (by decide))
                have X208 : ExC [0, 1, 2, 185, 242, 243, 244, 330, 331, 332, 333, 334, 999] σ0 σ181 := X207.tr (e184.mo (by decide))
                have X209 : ExC [0, 1, 2, 185, 242, 243, 244, 330, 331, 332, 333, 334, 999] σ0 σ192 := X208.tr (e195.mo (by decide))
                refine k_inv (P := P_X7_takes) (Q := Q_X7_takes) rfl rfl rfl rfl (Nat.le_of_ble_eq_true rfl) (t203.rc (by decide)) ⟨_, _, rfl, H194, t203, (by omega), (by omega), (rd_cd.st H0 h_0_0 X209 R206.1 (by decide)), (R206.2.2.2.1 rd_at), (rd_bg.st H0 h_0_0 X209 R206 (by decide) (by omega) (by omega) (by omega))⟩ (fun w210 σ211 q212 => ?_)
                obtain ⟨x213, rfl, H214, e215, h217, h218, R216, q219⟩ := q212
                have t225 := t203.x e215
                obtain ⟨x220, e221, c222, h223, h224⟩ := cg242 H214.1 t225
                obtain ⟨x226, e227, c228, h229, h230⟩ := cg243 H214.1 t225
                have z231 := congrArg Int32.toInt c222
                have z232 := congrArg Int32.toInt c228
                refine k_st (st' := [.inl x213]) rfl ?_
                rcases (by omega : x213.toInt = 0 ∨ x213.toInt = 1) with g233 | g233
                · have R234 : RdC p0 none (-22) (0) (0) σ0 σ211 := R206.tr ⟨R216.1, R216.2⟩ (by omega) (by omega) (by omega) (by omega)
                  have z235 := R234.2.2.1
                  have z236 := R234.2.2.2.1 rd_at
                  refine k_istore_n (ls' := [(2, .inl x213), (6, .inl x161), (5, .inl x126), (4, .inl x98), (0, .inr (.inr (some p0))), (1, .inr (.inr (some p1))), (3, .inl v17_3)]) rfl ?_
                  obtain ⟨x237, e239, h238⟩ := iincC (n := 1) (m := 1) (v := v17_3) rfl (by omega) (by omega)
                  refine k_iinc (ls' := [(3, .inl x237), (2, .inl x213), (6, .inl x161), (5, .inl x126), (4, .inl x98), (0, .inr (.inr (some p0))), (1, .inr (.inr (some p1)))]) rfl e239 rfl ?_
                  refine k_goto ?_
                  have X240 : ExC [0, 1, 2, 185, 242, 243, 244, 330, 331, 332, 333, 334, 999] σ0 σ211 := X209.tr (e215.mo (by decide))
                  exact hW _ _ _ _ _ (List.forall_mem_cons.2 ⟨List.Mem.tail _ (List.Mem.tail _ (List.Mem.tail _ (List.Mem.tail _ (List.Mem.tail _ (List.Mem.head _))))), (List.forall_mem_cons.2 ⟨List.Mem.tail _ (List.Mem.tail _ (List.Mem.tail _ (List.Mem.tail _ (List.Mem.tail _ (List.Mem.tail _ (List.Mem.head _)))))), (List.forall_mem_cons.2 ⟨List.Mem.tail _ (List.Mem.head _), (List.forall_mem_cons.2 ⟨List.Mem.head _, fun _ h => absurd h List.not_mem_nil⟩)⟩)⟩)⟩) (ih17 ((2147483647 - x237.toInt).toNat) (by omega) σ211 x213 x237 rfl H214 X240 (R234.mo (by omega) (by omega) (by omega)) (by omega) (by omega) (by omega) (by omega))
                · have R241 := R206.nf (-1000) (-1000) (q219 (by omega)).1
                  have R242 : RdC p0 none (-30) (-22) (-1000) σ0 σ211 := R241.tr ⟨(q219 (by omega)).2.1, (q219 (by omega)).2.2⟩ (by omega) (by omega) (by omega) (by omega)
                  have z243 := R242.2.2.1
                  have z244 := R242.2.2.2.1 rd_at
                  refine k_istore_n (ls' := [(2, .inl x213), (6, .inl x161), (5, .inl x126), (4, .inl x98), (0, .inr (.inr (some p0))), (1, .inr (.inr (some p1))), (3, .inl v17_3)]) rfl ?_
                  obtain ⟨x245, e247, h246⟩ := iincC (n := 1) (m := 1) (v := v17_3) rfl (by omega) (by omega)
                  refine k_iinc (ls' := [(3, .inl x245), (2, .inl x213), (6, .inl x161), (5, .inl x126), (4, .inl x98), (0, .inr (.inr (some p0))), (1, .inr (.inr (some p1)))]) rfl e247 rfl ?_
                  refine k_goto ?_
                  have X248 : ExC [0, 1, 2, 185, 242, 243, 244, 330, 331, 332, 333, 334, 999] σ0 σ211 := X209.tr (e215.mo (by decide))
                  exact hW _ _ _ _ _ (List.forall_mem_cons.2 ⟨List.Mem.tail _ (List.Mem.tail _ (List.Mem.tail _ (List.Mem.tail _ (List.Mem.tail _ (List.Mem.head _))))), (List.forall_mem_cons.2 ⟨List.Mem.tail _ (List.Mem.tail _ (List.Mem.tail _ (List.Mem.tail _ (List.Mem.tail _ (List.Mem.tail _ (List.Mem.head _)))))), (List.forall_mem_cons.2 ⟨List.Mem.tail _ (List.Mem.head _), (List.forall_mem_cons.2 ⟨List.Mem.head _, fun _ h => absurd h List.not_mem_nil⟩)⟩)⟩)⟩) (ih17 ((2147483647 - x245.toInt).toNat) (by omega) σ211 x213 x245 rfl H214 X248 (R242.mo (by omega) (by omega) (by omega)) (by omega) (by omega) (by omega) (by omega))
              · refine k_nil ?_
                refine hB _ _ _ _ (kgoC (is := KX7_readParams_55) rfl ?_)
                refine k_iconst (m := 1) rfl (fun x249 h250 => ?_)
                refine k_goto ?_
                refine hB _ _ _ _ (kgoC (is := KX7_readParams_60) rfl ?_)
                have R251 : RdC p0 none (-16) (0) (0) σ0 σ124 := R119.tr ⟨R129.1, R129.2⟩ (by omega) (by omega) (by omega) (by omega)
                have X252 : ExC [0, 1, 2, 185, 242, 243, 244, 330, 331, 332, 333, 334, 999] σ0 σ124 := X122.tr (e128.mo (by decide))
                refine k_inv (P := P_X7_declare) (Q := Q_X7_declare) rfl rfl rfl rfl (Nat.le_of_ble_eq_true rfl) (t135.rc (by decide)) ⟨_, _, _, _, rfl, H127, t135, (by omega), (by omega), (by omega), (by omega), (rd_cd.st H0 h_0_0 X252 R251.1 (by decide)), (R251.2.2.2.1 rd_at), (rd_bg.st H0 h_0_0 X252 R251 (by decide) (by omega) (by omega) (by omega))⟩ (fun w253 σ254 q255 => ?_)
                obtain ⟨x256, rfl, H257, e258, h260, h261, R259⟩ := q255
                have t267 := t135.x e258
                obtain ⟨x262, e263, c264, h265, h266⟩ := cg242 H257.1 t267
                obtain ⟨x268, e269, c270, h271, h272⟩ := cg243 H257.1 t267
                have z273 := congrArg Int32.toInt c264
                have z274 := congrArg Int32.toInt c270
                refine k_st (st' := [.inl x256]) rfl ?_
                refine k_istore (ls' := [(6, .inl x256), (5, .inl x126), (4, .inl x98), (0, .inr (.inr (some p0))), (1, .inr (.inr (some p1))), (2, .inl v17_2), (3, .inl v17_3)]) rfl ?_
                refine k_aload_n rfl ?_
                refine k_iload rfl ?_
                refine k_inv (P := P_X7_know) (Q := Q_X7_know) rfl rfl rfl rfl (Nat.le_of_ble_eq_true rfl) (t267.rc (by decide)) ⟨_, _, rfl, H257, t267⟩ (fun w275 σ276 q277 => ?_)
                obtain ⟨rfl, H278, e279⟩ := q277
                have c280 := (t267.mi e279 (by decide)).trans c264
                have c281 := (t267.mi e279 (by decide)).trans c270
                have z282 := congrArg Int32.toInt c280
                have z283 := congrArg Int32.toInt c281
                refine k_st (st' := []) rfl ?_
                refine k_aload_n rfl ?_
                refine k_iload rfl ?_
                have t284 := t145.x e258
                have t285 := t284.x e279
                refine k_inv (P := P_X5_addParam) (Q := Q_X5_addParam) rfl rfl rfl rfl (Nat.le_of_ble_eq_true rfl) (t285.rc (by decide)) ⟨_, _, rfl, H278, t285⟩ (fun w286 σ287 q288 => ?_)
                obtain ⟨rfl, H289, e290⟩ := q288
                have t291 := t267.x e279
                have c292 := (t291.mi e290 (by decide)).trans c280
                have c293 := (t291.mi e290 (by decide)).trans c281
                have z294 := congrArg Int32.toInt c292
                have z295 := congrArg Int32.toInt c293
                refine k_st (st' := []) rfl ?_
                refine k_aload_n rfl ?_
                refine k_iconst (m := 5) rfl (fun x296 h297 => ?_)
                have t298 := t291.x e290
                have R299 : RdC p0 none (-22) (0) (0) σ0 σ254 := R251.tr ⟨R259.1, R259.2⟩ (by omega) (by omega) (by omega) (by omega)
                have R300 : RdC p0 none (-22) (0) (0) σ0 σ276 := R299.tr ⟨(e279.gw H257.1 (by decide)), (e279.cou (u := 0) H257.1 t267 (by decide) (by rw [e279.cn (by decide)]; omega))⟩ (by omega) (by omega) (by omega) (by omega)
                have R301 : RdC p0 none (-22) (0) (0) σ0 σ287 := R300.tr ⟨(e290.gw H278.1 (by decide)), (e290.cou (u := 0) H278.1 t291 (by decide) (by rw [e290.cn (by decide)]; omega))⟩ (by omega) (by omega) (by omega) (by omega)
                have X302 : ExC [0, 1, 2, 185, 242, 243, 244, 330, 331, 332, 333, 334, 999] σ0 σ254 := X252.tr (e258.mo (by decide))
                have X303 : ExC [0, 1, 2, 185, 242, 243, 244, 330, 331, 332, 333, 334, 999] σ0 σ276 := X302.tr (e279.mo (by decide))
                have X304 : ExC [0, 1, 2, 185, 242, 243, 244, 330, 331, 332, 333, 334, 999] σ0 σ287 := X303.tr (e290.mo (by decide))
                refine k_inv (P := P_X7_takes) (Q := Q_X7_takes) rfl rfl rfl rfl (Nat.le_of_ble_eq_true rfl) (t298.rc (by decide)) ⟨_, _, rfl, H289, t298, (by omega), (by omega), (rd_cd.st H0 h_0_0 X304 R301.1 (by decide)), (R301.2.2.2.1 rd_at), (rd_bg.st H0 h_0_0 X304 R301 (by decide) (by omega) (by omega) (by omega))⟩ (fun w305 σ306 q307 => ?_)
                obtain ⟨x308, rfl, H309, e310, h312, h313, R311, q314⟩ := q307
                have t320 := t298.x e310
                obtain ⟨x315, e316, c317, h318, h319⟩ := cg242 H309.1 t320
                obtain ⟨x321, e322, c323, h324, h325⟩ := cg243 H309.1 t320
                have z326 := congrArg Int32.toInt c317
                have z327 := congrArg Int32.toInt c323
                refine k_st (st' := [.inl x308]) rfl ?_
                rcases (by omega : x308.toInt = 0 ∨ x308.toInt = 1) with g328 | g328
                · have R329 : RdC p0 none (-22) (0) (0) σ0 σ306 := R301.tr ⟨R311.1, R311.2⟩ (by omega) (by omega) (by omega) (by omega)
                  have z330 := R329.2.2.1
                  have z331 := R329.2.2.2.1 rd_at
                  refine k_istore_n (ls' := [(2, .inl x308), (6, .inl x256), (5, .inl x126), (4, .inl x98), (0, .inr (.inr (some p0))), (1, .inr (.inr (some p1))), (3, .inl v17_3)]) rfl ?_
                  obtain ⟨x332, e334, h333⟩ := iincC (n := 1) (m := 1) (v := v17_3) rfl (by omega) (by omega)
                  refine k_iinc (ls' := [(3, .inl x332), (2, .inl x308), (6, .inl x256), (5, .inl x126), (4, .inl x98), (0, .inr (.inr (some p0))), (1, .inr (.inr (some p1)))]) rfl e334 rfl ?_
                  refine k_goto ?_
                  have X335 : ExC [0, 1, 2, 185, 242, 243, 244, 330, 331, 332, 333, 334, 999] σ0 σ306 := X304.tr (e310.mo (by decide))
                  exact hW _ _ _ _ _ (List.forall_mem_cons.2 ⟨List.Mem.tail _ (List.Mem.tail _ (List.Mem.tail _ (List.Mem.tail _ (List.Mem.tail _ (List.Mem.head _))))), (List.forall_mem_cons.2 ⟨List.Mem.tail _ (List.Mem.tail _ (List.Mem.tail _ (List.Mem.tail _ (List.Mem.tail _ (List.Mem.tail _ (List.Mem.head _)))))), (List.forall_mem_cons.2 ⟨List.Mem.tail _ (List.Mem.head _), (List.forall_mem_cons.2 ⟨List.Mem.head _, fun _ h => absurd h List.not_mem_nil⟩)⟩)⟩)⟩) (ih17 ((2147483647 - x332.toInt).toNat) (by omega) σ306 x308 x332 rfl H309 X335 (R329.mo (by omega) (by omega) (by omega)) (by omega) (by omega) (by omega) (by omega))
                · have R336 := R301.nf (-1000) (-1000) (q314 (by omega)).1
                  have R337 : RdC p0 none (-30) (-22) (-1000) σ0 σ306 := R336.tr ⟨(q314 (by omega)).2.1, (q314 (by omega)).2.2⟩ (by omega) (by omega) (by omega) (by omega)
                  have z338 := R337.2.2.1
                  have z339 := R337.2.2.2.1 rd_at
                  refine k_istore_n (ls' := [(2, .inl x308), (6, .inl x256), (5, .inl x126), (4, .inl x98), (0, .inr (.inr (some p0))), (1, .inr (.inr (some p1))), (3, .inl v17_3)]) rfl ?_
                  obtain ⟨x340, e342, h341⟩ := iincC (n := 1) (m := 1) (v := v17_3) rfl (by omega) (by omega)
                  refine k_iinc (ls' := [(3, .inl x340), (2, .inl x308), (6, .inl x256), (5, .inl x126), (4, .inl x98), (0, .inr (.inr (some p0))), (1, .inr (.inr (some p1)))]) rfl e342 rfl ?_
                  refine k_goto ?_
                  have X343 : ExC [0, 1, 2, 185, 242, 243, 244, 330, 331, 332, 333, 334, 999] σ0 σ306 := X304.tr (e310.mo (by decide))
                  exact hW _ _ _ _ _ (List.forall_mem_cons.2 ⟨List.Mem.tail _ (List.Mem.tail _ (List.Mem.tail _ (List.Mem.tail _ (List.Mem.tail _ (List.Mem.head _))))), (List.forall_mem_cons.2 ⟨List.Mem.tail _ (List.Mem.tail _ (List.Mem.tail _ (List.Mem.tail _ (List.Mem.tail _ (List.Mem.tail _ (List.Mem.head _)))))), (List.forall_mem_cons.2 ⟨List.Mem.tail _ (List.Mem.head _), (List.forall_mem_cons.2 ⟨List.Mem.head _, fun _ h => absurd h List.not_mem_nil⟩)⟩)⟩)⟩) (ih17 ((2147483647 - x340.toInt).toNat) (by omega) σ306 x308 x340 rfl H309 X343 (R337.mo (by omega) (by omega) (by omega)) (by omega) (by omega) (by omega) (by omega))
            · have R344 := R16.nf (-1000) (-1000) (q104 (by omega)).1
              have R345 : RdC p0 none (-16) (-8) (-1000) σ0 σ96 := R344.tr ⟨(q104 (by omega)).2.1, (q104 (by omega)).2.2⟩ (by omega) (by omega) (by omega) (by omega)
              have z346 := R345.2.2.1
              have z347 := R345.2.2.2.1 rd_at
              refine k_istore (ls' := [(4, .inl x98), (0, .inr (.inr (some p0))), (1, .inr (.inr (some p1))), (2, .inl v17_2), (3, .inl v17_3)]) rfl ?_
              refine k_aload_n rfl ?_
              have X348 : ExC [0, 1, 2, 185, 242, 243, 244, 330, 331, 332, 333, 334, 999] σ0 σ96 := X94.tr (e100.mo (by decide))
              refine k_inv (P := P_X7_readType) (Q := Q_X7_readType) rfl rfl rfl rfl (Nat.le_of_ble_eq_true rfl) (t110.rc (by decide)) ⟨_, rfl, H99, t110, (rd_cd.st H0 h_0_0 X348 R345.1 (by decide)), (R345.2.2.2.1 rd_at), (rd_bg.st H0 h_0_0 X348 R345 (by decide) (by omega) (by omega) (by omega))⟩ (fun w349 σ350 q351 => ?_)
              obtain ⟨x352, rfl, H353, e354, R355⟩ := q351
              have t361 := t110.x e354
              obtain ⟨x356, e357, c358, h359, h360⟩ := cg242 H353.1 t361
              obtain ⟨x362, e363, c364, h365, h366⟩ := cg243 H353.1 t361
              have z367 := congrArg Int32.toInt c358
              have z368 := congrArg Int32.toInt c364
              refine k_st (st' := [.inl x352]) rfl ?_
              refine k_istore (ls' := [(5, .inl x352), (4, .inl x98), (0, .inr (.inr (some p0))), (1, .inr (.inr (some p1))), (2, .inl v17_2), (3, .inl v17_3)]) rfl ?_
              refine k_aload_n rfl ?_
              refine k_iload rfl ?_
              refine k_iload rfl ?_
              refine k_aload_n rfl ?_
              have t369 := h_1_0.x e15
              have t370 := t369.x e100
              have t371 := t370.x e354
              obtain ⟨x374, e372, c373, h375, h376⟩ := cg185 H353.1 t371
              refine k_get kg185 t371 e372 ?_
              refine k_bipush (m := 6) rfl (fun x377 h378 => ?_)
              refine k_ic_ge (fun h379 => ?_) (fun h379 => ?_)
              · refine hB _ _ _ _ (kgoC (is := KX7_readParams_59) rfl ?_)
                refine k_iconst (m := 0) rfl (fun x380 h381 => ?_)
                refine k_nil ?_
                refine hB _ _ _ _ (kgoC (is := KX7_readParams_60) rfl ?_)
                have R382 : RdC p0 none (-24) (-8) (-1000) σ0 σ350 := R345.tr ⟨R355.1, R355.2⟩ (by omega) (by omega) (by omega) (by omega)
                have X383 : ExC [0, 1, 2, 185, 242, 243, 244, 330, 331, 332, 333, 334, 999] σ0 σ350 := X348.tr (e354.mo (by decide))
                refine k_inv (P := P_X7_declare) (Q := Q_X7_declare) rfl rfl rfl rfl (Nat.le_of_ble_eq_true rfl) (t361.rc (by decide)) ⟨_, _, _, _, rfl, H353, t361, (by omega), (by omega), (by omega), (by omega), (rd_cd.st H0 h_0_0 X383 R382.1 (by decide)), (R382.2.2.2.1 rd_at), (rd_bg.st H0 h_0_0 X383 R382 (by decide) (by omega) (by omega) (by omega))⟩ (fun w384 σ385 q386 => ?_)
                obtain ⟨x387, rfl, H388, e389, h391, h392, R390⟩ := q386
                have t398 := t361.x e389
                obtain ⟨x393, e394, c395, h396, h397⟩ := cg242 H388.1 t398
                obtain ⟨x399, e400, c401, h402, h403⟩ := cg243 H388.1 t398
                have z404 := congrArg Int32.toInt c395
                have z405 := congrArg Int32.toInt c401
                refine k_st (st' := [.inl x387]) rfl ?_
                refine k_istore (ls' := [(6, .inl x387), (5, .inl x352), (4, .inl x98), (0, .inr (.inr (some p0))), (1, .inr (.inr (some p1))), (2, .inl v17_2), (3, .inl v17_3)]) rfl ?_
                refine k_aload_n rfl ?_
                refine k_iload rfl ?_
                refine k_inv (P := P_X7_know) (Q := Q_X7_know) rfl rfl rfl rfl (Nat.le_of_ble_eq_true rfl) (t398.rc (by decide)) ⟨_, _, rfl, H388, t398⟩ (fun w406 σ407 q408 => ?_)
                obtain ⟨rfl, H409, e410⟩ := q408
                have c411 := (t398.mi e410 (by decide)).trans c395
                have c412 := (t398.mi e410 (by decide)).trans c401
                have z413 := congrArg Int32.toInt c411
                have z414 := congrArg Int32.toInt c412
                refine k_st (st' := []) rfl ?_
                refine k_aload_n rfl ?_
                refine k_iload rfl ?_
                have t415 := t371.x e389
                have t416 := t415.x e410
                refine k_inv (P := P_X5_addParam) (Q := Q_X5_addParam) rfl rfl rfl rfl (Nat.le_of_ble_eq_true rfl) (t416.rc (by decide)) ⟨_, _, rfl, H409, t416⟩ (fun w417 σ418 q419 => ?_)
                obtain ⟨rfl, H420, e421⟩ := q419
                have t422 := t398.x e410
                have c423 := (t422.mi e421 (by decide)).trans c411
                have c424 := (t422.mi e421 (by decide)).trans c412
                have z425 := congrArg Int32.toInt c423
                have z426 := congrArg Int32.toInt c424
                refine k_st (st' := []) rfl ?_
                refine k_aload_n rfl ?_
                refine k_iconst (m := 5) rfl (fun x427 h428 => ?_)
                have t429 := t422.x e421
                have R430 : RdC p0 none (-30) (-8) (-1000) σ0 σ385 := R382.tr ⟨R390.1, R390.2⟩ (by omega) (by omega) (by omega) (by omega)
                have R431 : RdC p0 none (-30) (-8) (-1000) σ0 σ407 := R430.tr ⟨(e410.gw H388.1 (by decide)), (e410.cou (u := 0) H388.1 t398 (by decide) (by rw [e410.cn (by decide)]; omega))⟩ (by omega) (by omega) (by omega) (by omega)
                have R432 : RdC p0 none (-30) (-8) (-1000) σ0 σ418 := R431.tr ⟨(e421.gw H409.1 (by decide)), (e421.cou (u := 0) H409.1 t422 (by decide) (by rw [e421.cn (by decide)]; omega))⟩ (by omega) (by omega) (by omega) (by omega)
                have X433 : ExC [0, 1, 2, 185, 242, 243, 244, 330, 331, 332, 333, 334, 999] σ0 σ385 := X383.tr (e389.mo (by decide))
                have X434 : ExC [0, 1, 2, 185, 242, 243, 244, 330, 331, 332, 333, 334, 999] σ0 σ407 := X433.tr (e410.mo (by decide))
                have X435 : ExC [0, 1, 2, 185, 242, 243, 244, 330, 331, 332, 333, 334, 999] σ0 σ418 := X434.tr (e421.mo (by decide))
                refine k_inv (P := P_X7_takes) (Q := Q_X7_takes) rfl rfl rfl rfl (Nat.le_of_ble_eq_true rfl) (t429.rc (by decide)) ⟨_, _, rfl, H420, t429, (by omega), (by omega), (rd_cd.st H0 h_0_0 X435 R432.1 (by decide)), (R432.2.2.2.1 rd_at), (rd_bg.st H0 h_0_0 X435 R432 (by decide) (by omega) (by omega) (by omega))⟩ (fun w436 σ437 q438 => ?_)
                obtain ⟨x439, rfl, H440, e441, h443, h444, R442, q445⟩ := q438
                have t451 := t429.x e441
                obtain ⟨x446, e447, c448, h449, h450⟩ := cg242 H440.1 t451
                obtain ⟨x452, e453, c454, h455, h456⟩ := cg243 H440.1 t451
                have z457 := congrArg Int32.toInt c448
                have z458 := congrArg Int32.toInt c454
                refine k_st (st' := [.inl x439]) rfl ?_
                rcases (by omega : x439.toInt = 0 ∨ x439.toInt = 1) with g459 | g459
                · have R460 : RdC p0 none (-30) (-8) (-1000) σ0 σ437 := R432.tr ⟨R442.1, R442.2⟩ (by omega) (by omega) (by omega) (by omega)
                  have z461 := R460.2.2.1
                  have z462 := R460.2.2.2.1 rd_at
                  refine k_istore_n (ls' := [(2, .inl x439), (6, .inl x387), (5, .inl x352), (4, .inl x98), (0, .inr (.inr (some p0))), (1, .inr (.inr (some p1))), (3, .inl v17_3)]) rfl ?_
                  obtain ⟨x463, e465, h464⟩ := iincC (n := 1) (m := 1) (v := v17_3) rfl (by omega) (by omega)
                  refine k_iinc (ls' := [(3, .inl x463), (2, .inl x439), (6, .inl x387), (5, .inl x352), (4, .inl x98), (0, .inr (.inr (some p0))), (1, .inr (.inr (some p1)))]) rfl e465 rfl ?_
                  refine k_goto ?_
                  have X466 : ExC [0, 1, 2, 185, 242, 243, 244, 330, 331, 332, 333, 334, 999] σ0 σ437 := X435.tr (e441.mo (by decide))
                  exact hW _ _ _ _ _ (List.forall_mem_cons.2 ⟨List.Mem.tail _ (List.Mem.tail _ (List.Mem.tail _ (List.Mem.tail _ (List.Mem.tail _ (List.Mem.head _))))), (List.forall_mem_cons.2 ⟨List.Mem.tail _ (List.Mem.tail _ (List.Mem.tail _ (List.Mem.tail _ (List.Mem.tail _ (List.Mem.tail _ (List.Mem.head _)))))), (List.forall_mem_cons.2 ⟨List.Mem.tail _ (List.Mem.head _), (List.forall_mem_cons.2 ⟨List.Mem.head _, fun _ h => absurd h List.not_mem_nil⟩)⟩)⟩)⟩) (ih17 ((2147483647 - x463.toInt).toNat) (by omega) σ437 x439 x463 rfl H440 X466 (R460.mo (by omega) (by omega) (by omega)) (by omega) (by omega) (by omega) (by omega))
                · have R467 := R432.nf (-1000) (-1000) (q445 (by omega)).1
                  have R468 : RdC p0 none (-38) (-30) (-1000) σ0 σ437 := R467.tr ⟨(q445 (by omega)).2.1, (q445 (by omega)).2.2⟩ (by omega) (by omega) (by omega) (by omega)
                  have z469 := R468.2.2.1
                  have z470 := R468.2.2.2.1 rd_at
                  refine k_istore_n (ls' := [(2, .inl x439), (6, .inl x387), (5, .inl x352), (4, .inl x98), (0, .inr (.inr (some p0))), (1, .inr (.inr (some p1))), (3, .inl v17_3)]) rfl ?_
                  obtain ⟨x471, e473, h472⟩ := iincC (n := 1) (m := 1) (v := v17_3) rfl (by omega) (by omega)
                  refine k_iinc (ls' := [(3, .inl x471), (2, .inl x439), (6, .inl x387), (5, .inl x352), (4, .inl x98), (0, .inr (.inr (some p0))), (1, .inr (.inr (some p1)))]) rfl e473 rfl ?_
                  refine k_goto ?_
                  have X474 : ExC [0, 1, 2, 185, 242, 243, 244, 330, 331, 332, 333, 334, 999] σ0 σ437 := X435.tr (e441.mo (by decide))
                  exact hW _ _ _ _ _ (List.forall_mem_cons.2 ⟨List.Mem.tail _ (List.Mem.tail _ (List.Mem.tail _ (List.Mem.tail _ (List.Mem.tail _ (List.Mem.head _))))), (List.forall_mem_cons.2 ⟨List.Mem.tail _ (List.Mem.tail _ (List.Mem.tail _ (List.Mem.tail _ (List.Mem.tail _ (List.Mem.tail _ (List.Mem.head _)))))), (List.forall_mem_cons.2 ⟨List.Mem.tail _ (List.Mem.head _), (List.forall_mem_cons.2 ⟨List.Mem.head _, fun _ h => absurd h List.not_mem_nil⟩)⟩)⟩)⟩) (ih17 ((2147483647 - x471.toInt).toNat) (by omega) σ437 x439 x471 rfl H440 X474 (R468.mo (by omega) (by omega) (by omega)) (by omega) (by omega) (by omega) (by omega))
              · refine k_nil ?_
                refine hB _ _ _ _ (kgoC (is := KX7_readParams_55) rfl ?_)
                refine k_iconst (m := 1) rfl (fun x475 h476 => ?_)
                refine k_goto ?_
                refine hB _ _ _ _ (kgoC (is := KX7_readParams_60) rfl ?_)
                have R477 : RdC p0 none (-24) (-8) (-1000) σ0 σ350 := R345.tr ⟨R355.1, R355.2⟩ (by omega) (by omega) (by omega) (by omega)
                have X478 : ExC [0, 1, 2, 185, 242, 243, 244, 330, 331, 332, 333, 334, 999] σ0 σ350 := X348.tr (e354.mo (by decide))
                refine k_inv (P := P_X7_declare) (Q := Q_X7_declare) rfl rfl rfl rfl (Nat.le_of_ble_eq_true rfl) (t361.rc (by decide)) ⟨_, _, _, _, rfl, H353, t361, (by omega), (by omega), (by omega), (by omega), (rd_cd.st H0 h_0_0 X478 R477.1 (by decide)), (R477.2.2.2.1 rd_at), (rd_bg.st H0 h_0_0 X478 R477 (by decide) (by omega) (by omega) (by omega))⟩ (fun w479 σ480 q481 => ?_)
                obtain ⟨x482, rfl, H483, e484, h486, h487, R485⟩ := q481
                have t493 := t361.x e484
                obtain ⟨x488, e489, c490, h491, h492⟩ := cg242 H483.1 t493
                obtain ⟨x494, e495, c496, h497, h498⟩ := cg243 H483.1 t493
                have z499 := congrArg Int32.toInt c490
                have z500 := congrArg Int32.toInt c496
                refine k_st (st' := [.inl x482]) rfl ?_
                refine k_istore (ls' := [(6, .inl x482), (5, .inl x352), (4, .inl x98), (0, .inr (.inr (some p0))), (1, .inr (.inr (some p1))), (2, .inl v17_2), (3, .inl v17_3)]) rfl ?_
                refine k_aload_n rfl ?_
                refine k_iload rfl ?_
                refine k_inv (P := P_X7_know) (Q := Q_X7_know) rfl rfl rfl rfl (Nat.le_of_ble_eq_true rfl) (t493.rc (by decide)) ⟨_, _, rfl, H483, t493⟩ (fun w501 σ502 q503 => ?_)
                obtain ⟨rfl, H504, e505⟩ := q503
                have c506 := (t493.mi e505 (by decide)).trans c490
                have c507 := (t493.mi e505 (by decide)).trans c496
                have z508 := congrArg Int32.toInt c506
                have z509 := congrArg Int32.toInt c507
                refine k_st (st' := []) rfl ?_
                refine k_aload_n rfl ?_
                refine k_iload rfl ?_
                have t510 := t371.x e484
                have t511 := t510.x e505
                refine k_inv (P := P_X5_addParam) (Q := Q_X5_addParam) rfl rfl rfl rfl (Nat.le_of_ble_eq_true rfl) (t511.rc (by decide)) ⟨_, _, rfl, H504, t511⟩ (fun w512 σ513 q514 => ?_)
                obtain ⟨rfl, H515, e516⟩ := q514
                have t517 := t493.x e505
                have c518 := (t517.mi e516 (by decide)).trans c506
                have c519 := (t517.mi e516 (by decide)).trans c507
                have z520 := congrArg Int32.toInt c518
                have z521 := congrArg Int32.toInt c519
                refine k_st (st' := []) rfl ?_
                refine k_aload_n rfl ?_
                refine k_iconst (m := 5) rfl (fun x522 h523 => ?_)
                have t524 := t517.x e516
                have R525 : RdC p0 none (-30) (-8) (-1000) σ0 σ480 := R477.tr ⟨R485.1, R485.2⟩ (by omega) (by omega) (by omega) (by omega)
                have R526 : RdC p0 none (-30) (-8) (-1000) σ0 σ502 := R525.tr ⟨(e505.gw H483.1 (by decide)), (e505.cou (u := 0) H483.1 t493 (by decide) (by rw [e505.cn (by decide)]; omega))⟩ (by omega) (by omega) (by omega) (by omega)
                have R527 : RdC p0 none (-30) (-8) (-1000) σ0 σ513 := R526.tr ⟨(e516.gw H504.1 (by decide)), (e516.cou (u := 0) H504.1 t517 (by decide) (by rw [e516.cn (by decide)]; omega))⟩ (by omega) (by omega) (by omega) (by omega)
                have X528 : ExC [0, 1, 2, 185, 242, 243, 244, 330, 331, 332, 333, 334, 999] σ0 σ480 := X478.tr (e484.mo (by decide))
                have X529 : ExC [0, 1, 2, 185, 242, 243, 244, 330, 331, 332, 333, 334, 999] σ0 σ502 := X528.tr (e505.mo (by decide))
                have X530 : ExC [0, 1, 2, 185, 242, 243, 244, 330, 331, 332, 333, 334, 999] σ0 σ513 := X529.tr (e516.mo (by decide))
                refine k_inv (P := P_X7_takes) (Q := Q_X7_takes) rfl rfl rfl rfl (Nat.le_of_ble_eq_true rfl) (t524.rc (by decide)) ⟨_, _, rfl, H515, t524, (by omega), (by omega), (rd_cd.st H0 h_0_0 X530 R527.1 (by decide)), (R527.2.2.2.1 rd_at), (rd_bg.st H0 h_0_0 X530 R527 (by decide) (by omega) (by omega) (by omega))⟩ (fun w531 σ532 q533 => ?_)
                obtain ⟨x534, rfl, H535, e536, h538, h539, R537, q540⟩ := q533
                have t546 := t524.x e536
                obtain ⟨x541, e542, c543, h544, h545⟩ := cg242 H535.1 t546
                obtain ⟨x547, e548, c549, h550, h551⟩ := cg243 H535.1 t546
                have z552 := congrArg Int32.toInt c543
                have z553 := congrArg Int32.toInt c549
                refine k_st (st' := [.inl x534]) rfl ?_
                rcases (by omega : x534.toInt = 0 ∨ x534.toInt = 1) with g554 | g554
                · have R555 : RdC p0 none (-30) (-8) (-1000) σ0 σ532 := R527.tr ⟨R537.1, R537.2⟩ (by omega) (by omega) (by omega) (by omega)
                  have z556 := R555.2.2.1
                  have z557 := R555.2.2.2.1 rd_at
                  refine k_istore_n (ls' := [(2, .inl x534), (6, .inl x482), (5, .inl x352), (4, .inl x98), (0, .inr (.inr (some p0))), (1, .inr (.inr (some p1))), (3, .inl v17_3)]) rfl ?_
                  obtain ⟨x558, e560, h559⟩ := iincC (n := 1) (m := 1) (v := v17_3) rfl (by omega) (by omega)
                  refine k_iinc (ls' := [(3, .inl x558), (2, .inl x534), (6, .inl x482), (5, .inl x352), (4, .inl x98), (0, .inr (.inr (some p0))), (1, .inr (.inr (some p1)))]) rfl e560 rfl ?_
                  refine k_goto ?_
                  have X561 : ExC [0, 1, 2, 185, 242, 243, 244, 330, 331, 332, 333, 334, 999] σ0 σ532 := X530.tr (e536.mo (by decide))
                  exact hW _ _ _ _ _ (List.forall_mem_cons.2 ⟨List.Mem.tail _ (List.Mem.tail _ (List.Mem.tail _ (List.Mem.tail _ (List.Mem.tail _ (List.Mem.head _))))), (List.forall_mem_cons.2 ⟨List.Mem.tail _ (List.Mem.tail _ (List.Mem.tail _ (List.Mem.tail _ (List.Mem.tail _ (List.Mem.tail _ (List.Mem.head _)))))), (List.forall_mem_cons.2 ⟨List.Mem.tail _ (List.Mem.head _), (List.forall_mem_cons.2 ⟨List.Mem.head _, fun _ h => absurd h List.not_mem_nil⟩)⟩)⟩)⟩) (ih17 ((2147483647 - x558.toInt).toNat) (by omega) σ532 x534 x558 rfl H535 X561 (R555.mo (by omega) (by omega) (by omega)) (by omega) (by omega) (by omega) (by omega))
                · have R562 := R527.nf (-1000) (-1000) (q540 (by omega)).1
                  have R563 : RdC p0 none (-38) (-30) (-1000) σ0 σ532 := R562.tr ⟨(q540 (by omega)).2.1, (q540 (by omega)).2.2⟩ (by omega) (by omega) (by omega) (by omega)
                  have z564 := R563.2.2.1
                  have z565 := R563.2.2.2.1 rd_at
                  refine k_istore_n (ls' := [(2, .inl x534), (6, .inl x482), (5, .inl x352), (4, .inl x98), (0, .inr (.inr (some p0))), (1, .inr (.inr (some p1))), (3, .inl v17_3)]) rfl ?_
                  obtain ⟨x566, e568, h567⟩ := iincC (n := 1) (m := 1) (v := v17_3) rfl (by omega) (by omega)
                  refine k_iinc (ls' := [(3, .inl x566), (2, .inl x534), (6, .inl x482), (5, .inl x352), (4, .inl x98), (0, .inr (.inr (some p0))), (1, .inr (.inr (some p1)))]) rfl e568 rfl ?_
                  refine k_goto ?_
                  have X569 : ExC [0, 1, 2, 185, 242, 243, 244, 330, 331, 332, 333, 334, 999] σ0 σ532 := X530.tr (e536.mo (by decide))
                  exact hW _ _ _ _ _ (List.forall_mem_cons.2 ⟨List.Mem.tail _ (List.Mem.tail _ (List.Mem.tail _ (List.Mem.tail _ (List.Mem.tail _ (List.Mem.head _))))), (List.forall_mem_cons.2 ⟨List.Mem.tail _ (List.Mem.tail _ (List.Mem.tail _ (List.Mem.tail _ (List.Mem.tail _ (List.Mem.tail _ (List.Mem.head _)))))), (List.forall_mem_cons.2 ⟨List.Mem.tail _ (List.Mem.head _), (List.forall_mem_cons.2 ⟨List.Mem.head _, fun _ h => absurd h List.not_mem_nil⟩)⟩)⟩)⟩) (ih17 ((2147483647 - x566.toInt).toNat) (by omega) σ532 x534 x566 rfl H535 X569 (R563.mo (by omega) (by omega) (by omega)) (by omega) (by omega) (by omega) (by omega))
    refine hB _ _ _ _ (kgoC (is := KX7_readParams_0) rfl ?_)
    refine k_aload_n rfl ?_
    refine k_iconst (m := 0) rfl (fun x570 h571 => ?_)
    refine k_inv (P := P_X7_expect) (Q := Q_X7_expect) rfl rfl rfl rfl (Nat.le_of_ble_eq_true rfl) (h_0_0.rc (by decide)) ⟨_, _, rfl, H0, h_0_0, (by omega), (by omega), (rd_cd.st H0 h_0_0 (ExC.rf : ExC [0, 1, 2, 185, 242, 243, 244, 330, 331, 332, 333, 334, 999] σ0 σ0) (RdC.rf : RdC p0 none 0 0 0 σ0 σ0).1 (by decide)), ((RdC.rf : RdC p0 none 0 0 0 σ0 σ0).2.2.2.1 rd_at), (rd_bg.st H0 h_0_0 (ExC.rf : ExC [0, 1, 2, 185, 242, 243, 244, 330, 331, 332, 333, 334, 999] σ0 σ0) (RdC.rf : RdC p0 none 0 0 0 σ0 σ0) (by decide) (by omega) (by omega) (by omega))⟩ (fun w572 σ573 q574 => ?_)
    obtain ⟨rfl, H575, e576, R577, q578⟩ := q574
    have t584 := h_0_0.x e576
    obtain ⟨x579, e580, c581, h582, h583⟩ := cg242 H575.1 t584
    obtain ⟨x585, e586, c587, h588, h589⟩ := cg243 H575.1 t584
    have z590 := congrArg Int32.toInt c581
    have z591 := congrArg Int32.toInt c587
    refine k_st (st' := []) rfl ?_
    have R592 : RdC p0 none (-8) (0) (0) σ0 σ573 := (RdC.rf : RdC p0 none 0 0 0 σ0 σ0).tr ⟨R577.1, R577.2⟩ (by omega) (by omega) (by omega) (by omega)
    have z593 := R592.2.2.1
    have z594 := R592.2.2.2.1 rd_at
    refine k_aload_n rfl ?_
    have X595 : ExC [0, 1, 2, 185, 242, 243, 244, 330, 331, 332, 333, 334, 999] σ0 σ573 := ExC.rf.tr (e576.mo (by decide))
    refine k_inv (P := P_X7_code) (Q := Q_X7_code) rfl rfl rfl rfl (Nat.le_of_ble_eq_true rfl) (t584.rc (by decide)) ⟨_, rfl, H575, t584, (rd_cd.st H0 h_0_0 X595 R592.1 (by decide))⟩ (fun w596 σ597 q598 => ?_)
    obtain ⟨x599, rfl, rfl, q600, q601, q602⟩ := q598
    refine k_st (st' := [.inl x599]) rfl ?_
    refine k_iconst (m := 1) rfl (fun x603 h604 => ?_)
    refine k_ic_eq (fun h605 => ?_) (fun h605 => ?_)
    · have h606 : x585.toInt = 0 := by omega
      refine hB _ _ _ _ (kgoC (is := KX7_readParams_89) rfl ?_)
      refine k_aload_n rfl ?_
      refine k_iconst (m := 1) rfl (fun x607 h608 => ?_)
      have R609 := R592.nf (-1000) (-1000) (by rw [c587]; omega)
      refine k_inv (P := P_X7_expect) (Q := Q_X7_expect) rfl rfl rfl rfl (Nat.le_of_ble_eq_true rfl) (t584.rc (by decide)) ⟨_, _, rfl, H575, t584, (by omega), (by omega), (rd_cd.st H0 h_0_0 X595 R609.1 (by decide)), (R609.2.2.2.1 rd_at), (rd_bg.stn H0 h_0_0 X595 R609 (by decide) (by rw [c587]; omega) (by omega))⟩ (fun w610 σ611 q612 => ?_)
      obtain ⟨rfl, H613, e614, R615, q616⟩ := q612
      have t622 := t584.x e614
      obtain ⟨x617, e618, c619, h620, h621⟩ := cg242 H613.1 t622
      obtain ⟨x623, e624, c625, h626, h627⟩ := cg243 H613.1 t622
      have z628 := congrArg Int32.toInt c619
      have z629 := congrArg Int32.toInt c625
      refine k_st (st' := []) rfl ?_
      have R630 : RdC p0 none (-16) (-8) (-1000) σ0 σ611 := R609.tr ⟨R615.1, R615.2⟩ (by omega) (by omega) (by omega) (by omega)
      have z631 := R630.2.2.1
      have z632 := R630.2.2.2.1 rd_at
      refine k_return ?_
      have X633 : ExC [0, 1, 2, 185, 242, 243, 244, 330, 331, 332, 333, 334, 999] σ0 σ611 := X595.tr (e614.mo (by decide))
      exact ⟨rfl, H613, X633, (R630.mo (by omega) (by omega) (by omega))⟩
    · refine k_nil ?_
      refine hB _ _ _ _ (kgoC (is := KX7_readParams_13) rfl ?_)
      refine k_iconst (m := 1) rfl (fun x634 h635 => ?_)
      refine k_istore_n (ls' := [(2, .inl x634), (0, .inr (.inr (some p0))), (1, .inr (.inr (some p1)))]) rfl ?_
      refine k_iconst (m := 0) rfl (fun x636 h637 => ?_)
      refine k_istore_n (ls' := [(3, .inl x636), (2, .inl x634), (0, .inr (.inr (some p0))), (1, .inr (.inr (some p1)))]) rfl ?_
      refine k_nil ?_
      exact hW _ _ _ _ _ (List.forall_mem_cons.2 ⟨List.Mem.tail _ (List.Mem.tail _ (List.Mem.head _)), (List.forall_mem_cons.2 ⟨List.Mem.tail _ (List.Mem.tail _ (List.Mem.tail _ (List.Mem.head _))), (List.forall_mem_cons.2 ⟨List.Mem.tail _ (List.Mem.head _), (List.forall_mem_cons.2 ⟨List.Mem.head _, fun _ h => absurd h List.not_mem_nil⟩)⟩)⟩)⟩) (L17 _ σ573 x634 x636 rfl H575 X595 (R592.mo (by omega) (by omega) (by omega)) (by omega) (by omega) (by omega) (by omega))
abbrev P_X7_readMethod : CpC := fun As σ => ∃ (p0 : Nat), As = [.inr (.inr (some p0))] ∧ HIC σ ∧ TyC σ p0 8 ∧ CdC σ p0 ∧ (fIC σ p0 242).toInt ≤ CtC σ p0 ∧ RmC σ p0 (8 * (501 - (fIC σ p0 242).toInt) + (200)) ∧ (fIC σ p0 243).toInt = 0
abbrev Q_X7_readMethod : CqC := fun As σ w τ => match As with
  | [.inr (.inr (some p0))] => w = none ∧ HIC τ ∧ ExC [0, 1, 2, 60, 61, 62, 63, 64, 65, 66, 67, 68, 69, 70, 72, 73, 74, 75, 76, 180, 182, 183, 184, 185, 186, 242, 243, 244, 246, 270, 271, 272, 273, 275, 276, 277, 278, 279, 280, 330, 331, 332, 333, 334, 999] σ τ ∧ RdC p0 none (0) (200) (0) σ τ
  | _ => False
set_option maxRecDepth 100000 in
set_option maxHeartbeats 4000000 in
theorem m_X7_readMethod (l : Launch) : CMetC l 312 134 P_X7_readMethod Q_X7_readMethod := by
  refine CMetC.of KX7_readMethod [(125, P_X7_code, Q_X7_code), (132, P_X7_isType, Q_X7_isType), (128, P_X7_accept, Q_X7_accept), (234, P_Jx4a65c_size_8abf5, Q_Jx4a65c_size_8abf5), (111, P_X5_init, Q_X5_init), (236, P_Jx4a65c_add_9ea2d, Q_Jx4a65c_add_9ea2d), (135, P_X7_readParams, Q_X7_readParams), (143, (P_X7_readBody 21), (Q_X7_readBody 21)), (127, P_X7_raise, Q_X7_raise)] hX7_readMethod (by decide) (by decide) okX7_readMethod (cc1C (m_X7_code l) (by decide) (cc1C (m_X7_isType l) (by decide) (cc1C (m_X7_accept l) (by decide) (cc1C (m_Jx4a65c_size_8abf5 l) (by decide) (cc1C (m_X5_init l) (by decide) (cc1C (m_Jx4a65c_add_9ea2d l) (by decide) (cc1C (m_X7_readParams l) (by decide) (cc1C (m_X7_readBody l 21) (by decide) (cc1C (m_X7_raise l) (by decide) cc0C))))))))) ?_ ?_
  · rintro As σ ⟨p0, rfl, -⟩
    exact Nat.le_of_ble_eq_true rfl
  · rintro As σ0 ⟨p0, rfl, H0, h_0_0, rd_cd, rd_at, rd_bl, rd_lv⟩ hgr G hB hW
    change G 0 [(0, .inr (.inr (some p0)))] [] σ0
    obtain ⟨x1, e2, c3, h4, h5⟩ := cg242 H0.1 h_0_0
    obtain ⟨x6, e7, c8, h9, h10⟩ := cg243 H0.1 h_0_0
    have z11 := congrArg Int32.toInt c3
    have z12 := congrArg Int32.toInt c8
    have h13 : x6.toInt = 0 := by rw [← c8]; exact rd_lv
    have rd_bg : BgC σ0 p0 (200) 1000000 := ⟨fun _ => rd_bl, fun z => absurd rd_lv z⟩
    refine hB _ _ _ _ (kgoC (is := KX7_readMethod_0) rfl ?_)
    refine k_aload_n rfl ?_
    have R14 := (RdC.rf : RdC p0 none 0 0 0 σ0 σ0).nf (-1000) (-1000) (by rw [c8]; omega)
    refine k_inv (P := P_X7_code) (Q := Q_X7_code) rfl rfl rfl rfl (Nat.le_of_ble_eq_true rfl) (h_0_0.rc (by decide)) ⟨_, rfl, H0, h_0_0, (rd_cd.st H0 h_0_0 (ExC.rf : ExC [0, 1, 2, 60, 61, 62, 63, 64, 65, 66, 67, 68, 69, 70, 72, 73, 74, 75, 76, 180, 182, 183, 184, 185, 186, 242, 243, 244, 246, 270, 271, 272, 273, 275, 276, 277, 278, 279, 280, 330, 331, 332, 333, 334, 999] σ0 σ0) R14.1 (by decide))⟩ (fun w15 σ16 q17 => ?_)
    obtain ⟨x18, rfl, rfl, q19, q20, q21⟩ := q17
    refine k_st (st' := [.inl x18]) rfl ?_
    have z22 := R14.2.2.1
    have z23 := R14.2.2.2.1 rd_at
    refine k_bipush (m := 50) rfl (fun x24 h25 => ?_)
    have z28 := tiC x18
    refine k_isub_u (fun x26 => ?_)
    refine k_istore_n (ls' := [(1, .inl x26), (0, .inr (.inr (some p0)))]) rfl ?_
    refine k_aload_n rfl ?_
    refine k_inv (P := P_X7_code) (Q := Q_X7_code) rfl rfl rfl rfl (Nat.le_of_ble_eq_true rfl) (h_0_0.rc (by decide)) ⟨_, rfl, H0, h_0_0, (rd_cd.st H0 h_0_0 (ExC.rf : ExC [0, 1, 2, 60, 61, 62, 63, 64, 65, 66, 67, 68, 69, 70, 72, 73, 74, 75, 76, 180, 182, 183, 184, 185, 186, 242, 243, 244, 246, 270, 271, 272, 273, 275, 276, 277, 278, 279, 280, 330, 331, 332, 333, 334, 999] σ0 σ0) R14.1 (by decide))⟩ (fun w29 σ30 q31 => ?_)
    obtain ⟨x32, rfl, rfl, q33, q34, q35⟩ := q31
    refine k_st (st' := [.inl x32]) rfl ?_
    refine k_stat (P := P_X7_isType) (Q := Q_X7_isType) rfl rfl (Nat.le_of_ble_eq_true rfl) rfl rfl (Nat.le_of_ble_eq_true rfl) ⟨_, rfl, H0⟩ (fun w36 σ37 q38 => ?_)
    obtain ⟨x39, rfl, rfl, h40, h41, q42⟩ := q38
    refine k_st (st' := [.inl x39]) rfl ?_
    rcases (by omega : x39.toInt = 0 ∨ x39.toInt = 1) with g43 | g43
    · refine k_if_ne (fun h44 => by exfalso; omega) (fun h44 => ?_)
      refine k_nil ?_
      refine hB _ _ _ _ (kgoC (is := KX7_readMethod_18) rfl ?_)
      refine k_aload_n rfl ?_
      refine k_inv (P := P_X7_code) (Q := Q_X7_code) rfl rfl rfl rfl (Nat.le_of_ble_eq_true rfl) (h_0_0.rc (by decide)) ⟨_, rfl, H0, h_0_0, (rd_cd.st H0 h_0_0 (ExC.rf : ExC [0, 1, 2, 60, 61, 62, 63, 64, 65, 66, 67, 68, 69, 70, 72, 73, 74, 75, 76, 180, 182, 183, 184, 185, 186, 242, 243, 244, 246, 270, 271, 272, 273, 275, 276, 277, 278, 279, 280, 330, 331, 332, 333, 334, 999] σ0 σ0) R14.1 (by decide))⟩ (fun w45 σ46 q47 => ?_)
      obtain ⟨x48, rfl, rfl, q49, q50, q51⟩ := q47
      refine k_st (st' := [.inl x48]) rfl ?_
      refine k_bipush (m := 55) rfl (fun x52 h53 => ?_)
      refine k_ic_eq (fun h54 => ?_) (fun h54 => ?_)
      · refine hB _ _ _ _ (kgoC (is := KX7_readMethod_32) rfl ?_)
        refine k_aload_n rfl ?_
        refine k_inv (P := P_X7_accept) (Q := Q_X7_accept) rfl rfl rfl rfl (Nat.le_of_ble_eq_true rfl) (h_0_0.rc (by decide)) ⟨_, rfl, H0, h_0_0, (rd_cd.st H0 h_0_0 (ExC.rf : ExC [0, 1, 2, 60, 61, 62, 63, 64, 65, 66, 67, 68, 69, 70, 72, 73, 74, 75, 76, 180, 182, 183, 184, 185, 186, 242, 243, 244, 246, 270, 271, 272, 273, 275, 276, 277, 278, 279, 280, 330, 331, 332, 333, 334, 999] σ0 σ0) R14.1 (by decide)), (R14.2.2.2.1 rd_at), (rd_bg.stn H0 h_0_0 (ExC.rf : ExC [0, 1, 2, 60, 61, 62, 63, 64, 65, 66, 67, 68, 69, 70, 72, 73, 74, 75, 76, 180, 182, 183, 184, 185, 186, 242, 243, 244, 246, 270, 271, 272, 273, 275, 276, 277, 278, 279, 280, 330, 331, 332, 333, 334, 999] σ0 σ0) R14 (by decide) (by rw [c8]; omega) (by omega)), (by have ct := R14.2.2.1; rw [c8, c3, ct]; omega)⟩ (fun w55 σ56 q57 => ?_)
        obtain ⟨rfl, H58, e59, R60, q61⟩ := q57
        have t67 := h_0_0.x e59
        obtain ⟨x62, e63, c64, h65, h66⟩ := cg242 H58.1 t67
        obtain ⟨x68, e69, c70, h71, h72⟩ := cg243 H58.1 t67
        have z73 := congrArg Int32.toInt c64
        have z74 := congrArg Int32.toInt c70
        refine k_st (st' := []) rfl ?_
        have R75 : RdC p0 none (-8) (0) (-1000) σ0 σ56 := R14.tr ⟨R60.1, R60.2⟩ (by omega) (by omega) (by omega) (by omega)
        have z76 := R75.2.2.1
        have z77 := R75.2.2.2.1 rd_at
        refine k_aload_n rfl ?_
        obtain ⟨a80, e78, c79, t81⟩ := cg240 H58.1 t67
        refine k_get kg240 t67 e78 ?_
        obtain ⟨a84, e82, c83, t85, l86⟩ := cg211 H58.1 t81
        refine k_get kg211 t81 e82 ?_
        refine k_inv (P := P_Jx4a65c_size_8abf5) (Q := Q_Jx4a65c_size_8abf5) rfl rfl rfl rfl (Nat.le_of_ble_eq_true rfl) (t85.rc (by decide)) ⟨_, rfl, H58, t85⟩ (fun w87 σ88 q89 => ?_)
        obtain ⟨x90, rfl, rfl, h91, h92, q93, q94⟩ := q89
        refine k_st (st' := [.inl x90]) rfl ?_
        have z95 := q94 l86
        refine k_istore_n (ls' := [(2, .inl x90), (1, .inl x26), (0, .inr (.inr (some p0)))]) rfl ?_
        refine k_aload_n rfl ?_
        have X96 : ExC [0, 1, 2, 60, 61, 62, 63, 64, 65, 66, 67, 68, 69, 70, 72, 73, 74, 75, 76, 180, 182, 183, 184, 185, 186, 242, 243, 244, 246, 270, 271, 272, 273, 275, 276, 277, 278, 279, 280, 330, 331, 332, 333, 334, 999] σ0 σ56 := ExC.rf.tr (e59.mo (by decide))
        refine k_inv (P := P_X7_code) (Q := Q_X7_code) rfl rfl rfl rfl (Nat.le_of_ble_eq_true rfl) (t67.rc (by decide)) ⟨_, rfl, H58, t67, (rd_cd.st H0 h_0_0 X96 R75.1 (by decide))⟩ (fun w97 σ98 q99 => ?_)
        obtain ⟨x100, rfl, rfl, q101, q102, q103⟩ := q99
        refine k_st (st' := [.inl x100]) rfl ?_
        refine k_bipush (m := 80) rfl (fun x104 h105 => ?_)
        refine k_ic_eq (fun h106 => ?_) (fun h106 => ?_)
        · have h107 : x68.toInt = 0 := by omega
          refine hB _ _ _ _ (kgoC (is := KX7_readMethod_64) rfl ?_)
          refine k_iload_n rfl ?_
          refine k_bipush (m := 10) rfl (fun x108 h109 => ?_)
          refine k_ic_lt (fun h110 => ?_) (fun h110 => ?_)
          · refine hB _ _ _ _ (kgoC (is := KX7_readMethod_75) rfl ?_)
            refine k_aload_n rfl ?_
            refine k_get kg243 t67 (congrArg (Sum.inl : Int32 → AvC) c70) ?_
            refine k_if_eq (fun h111 => ?_) (fun h111 => by exfalso; omega)
            refine hB _ _ _ _ (kgoC (is := KX7_readMethod_83) rfl ?_)
            have R112 := R75.nf (-1000) (-1000) (by rw [c70]; omega)
            have B113 : BgC σ56 p0 3 3 := rd_bg.stn H0 h_0_0 X96 R112 (by decide) (by rw [c70]; omega) (by omega)
            obtain ⟨h114, h115⟩ := B113.new H58.1 t67 (u := 3) (by omega) (by omega)
            have z116 := R112.1.1
            refine k_new (c := 6) (g := 0) H58 (by decide) rfl (by omega) (by have hn : nfC 6 = 7 := rfl; omega) (fun a117 σ118 q119 H120 e121 r122 z123 l124 u125 u126 => ?_)
            rw [show nfC 6 = 7 from rfl] at u126
            have u127 : cpC σ118 = cpC σ56 := congrArg Prod.fst e121.2.1.1
            have u128 : spC σ118 = spC σ56 := congrArg Prod.snd e121.2.1.1
            refine k_dupR ?_
            refine k_aload_n rfl ?_
            have t129 := t67.x e121
            have c130 := (t67.mi e121 (by decide)).trans c64
            refine k_get kg242 t129 (congrArg (Sum.inl : Int32 → AvC) c130) ?_
            refine k_aload_n rfl ?_
            obtain ⟨a133, e131, c132, t134⟩ := cg241 H120.1 t129
            refine k_get kg241 t129 e131 ?_
            obtain ⟨a137, e135, c136, t138, l139⟩ := cg304 H120.1 t134
            refine k_get kg304 t134 e135 ?_
            refine k_aload_n rfl ?_
            refine k_get kg242 t129 (congrArg (Sum.inl : Int32 → AvC) c130) ?_
            refine k_laload t138 (by omega) (by omega) (fun y140 => ?_)
            refine k_iload_n rfl ?_
            refine k_aload_n rfl ?_
            have c141 := (t67.mr e121 (by decide)).trans c79
            refine k_get kg240 t129 (congrArg (fun z : Option Nat => (Sum.inr (Sum.inr z) : AvC)) c141) ?_
            have t142 := t81.x e121
            obtain ⟨a145, e143, c144, t146, l147⟩ := cg212 H120.1 t142
            refine k_get kg212 t142 e143 ?_
            refine k_inv (P := P_Jx4a65c_size_8abf5) (Q := Q_Jx4a65c_size_8abf5) rfl rfl rfl rfl (Nat.le_of_ble_eq_true rfl) (t146.rc (by decide)) ⟨_, rfl, H120, t146⟩ (fun w148 σ149 q150 => ?_)
            obtain ⟨x151, rfl, rfl, h152, h153, q154, q155⟩ := q150
            refine k_st (st' := [.inl x151, .inl x26, .inr (.inl y140), .inl x62, .inr (.inr (some a117)), .inr (.inr (some a117))]) rfl ?_
            refine k_spec (P := P_X5_init) (Q := Q_X5_init) rfl rfl rfl rfl (Nat.le_of_ble_eq_true rfl) ⟨_, _, _, _, _, rfl, H120, r122, z123, (by omega), (by omega), (by omega), (by omega)⟩ (fun w156 σ157 q158 => ?_)
            obtain ⟨rfl, H159, e160, t161, l162, u163, u164, g165, q167⟩ := q158
            have l166 := l162.trans l124
            have c168 := (t129.mit r122 (by decide) e160 (by decide)).trans c130
            have c169 := (t67.mi e121 (by decide)).trans c70
            have c170 := (t129.mit r122 (by decide) e160 (by decide)).trans c169
            have z171 := congrArg Int32.toInt c168
            have z172 := congrArg Int32.toInt c170
            refine k_st (st' := [.inr (.inr (some a117))]) rfl ?_
            refine k_astore_n (ls' := [(3, .inr (.inr (some a117))), (2, .inl x90), (1, .inl x26), (0, .inr (.inr (some p0)))]) rfl ?_
            refine k_aload_n rfl ?_
            have t173 := t129.xt r122 (by decide) e160
            have c174 := (t129.mrt r122 (by decide) e160 (by decide)).trans c141
            refine k_get kg240 t173 (congrArg (fun z : Option Nat => (Sum.inr (Sum.inr z) : AvC)) c174) ?_
            have t175 := t142.xt r122 (by decide) e160
            have c176 := (t81.mr e121 (by decide)).trans c83
            have c177 := (t142.mrt r122 (by decide) e160 (by decide)).trans c176
            refine k_get kg211 t175 (congrArg (fun z : Option Nat => (Sum.inr (Sum.inr z) : AvC)) c177) ?_
            refine k_aload_n rfl ?_
            have t178 := t85.x e121
            have t179 := t178.xt r122 (by decide) e160
            have l180 := (t85.gh e121).trans l86
            have l181 := (t178.ght r122 (by decide) e160).trans l180
            have R182 : RdC p0 none (-7) (-7) (-999) σ0 σ118 := R112.tr ⟨(e121.gwn H58.1 u125 u126 (by decide) (by rw [← q119]; exact r122.n0)), (e121.cou (u := 1) H58.1 t67 (by decide) (by omega))⟩ (by omega) (by omega) (by omega) (by omega)
            have R183 : RdC p0 none (-5) (-5) (-997) σ0 σ157 := R182.tr ⟨g165, (e160.co (u := 2) H120.1 t129 r122 (by decide) (by omega))⟩ (by omega) (by omega) (by omega) (by omega)
            have R184 := R183.nf (-1000) (-1000) (by rw [c170]; omega)
            have X185 : ExC [0, 1, 2, 60, 61, 62, 63, 64, 65, 66, 67, 68, 69, 70, 72, 73, 74, 75, 76, 180, 182, 183, 184, 185, 186, 242, 243, 244, 246, 270, 271, 272, 273, 275, 276, 277, 278, 279, 280, 330, 331, 332, 333, 334, 999] σ56 σ118 := ExC.rf.tr (e121.mo (by decide))
            have X186 : ExC [0, 1, 2, 60, 61, 62, 63, 64, 65, 66, 67, 68, 69, 70, 72, 73, 74, 75, 76, 180, 182, 183, 184, 185, 186, 242, 243, 244, 246, 270, 271, 272, 273, 275, 276, 277, 278, 279, 280, 330, 331, 332, 333, 334, 999] σ56 σ157 := (X185 : ExC [0, 1, 2, 60, 61, 62, 63, 64, 65, 66, 67, 68, 69, 70, 72, 73, 74, 75, 76, 180, 182, 183, 184, 185, 186, 242, 243, 244, 246, 270, 271, 272, 273, 275, 276, 277, 278, 279, 280, 330, 331, 332, 333, 334, 999] σ56 σ118).nt (Nat.le_of_eq q119.symm) (e160.mo (by decide))
            have X187 : ExC [0, 1, 2, 60, 61, 62, 63, 64, 65, 66, 67, 68, 69, 70, 72, 73, 74, 75, 76, 180, 182, 183, 184, 185, 186, 242, 243, 244, 246, 270, 271, 272, 273, 275, 276, 277, 278, 279, 280, 330, 331, 332, 333, 334, 999] σ0 σ157 := X96.tr X186
            have B188 : BgC σ157 p0 1 1 := rd_bg.stn H0 h_0_0 X187 R184 (by decide) (by rw [c170]; omega) (by omega)
            obtain ⟨h189, h190⟩ := B188.new H159.1 t173 (u := 1) (by omega) (by omega)
            have c191 := (t85.mi e121 (by decide)).trans q93
            have c192 := (t178.mit r122 (by decide) e160 (by decide)).trans c191
            refine k_inv (P := P_Jx4a65c_add_9ea2d) (Q := Q_Jx4a65c_add_9ea2d) rfl rfl rfl rfl (Nat.le_of_ble_eq_true rfl) (t179.rc (by decide)) ⟨_, _, rfl, H159, t179, (by rw [l181]; exact ⟨t161, by decide, fun hz => by rw [q167]; omega⟩), (B188.sz H159.1 t173 (by omega) (by omega) c174 (by decide) c177), h189, (by omega), (fun _ => by rw [c192] <;> omega)⟩ (fun w193 σ194 q195 => ?_)
            obtain ⟨x196, rfl, H197, e198, h200, h201, g199, q202, q203⟩ := q195
            have c204 := (t173.mi e198 (by decide)).trans c168
            have c205 := (t173.mi e198 (by decide)).trans c170
            have z206 := congrArg Int32.toInt c204
            have z207 := congrArg Int32.toInt c205
            refine k_st (st' := [.inl x196]) rfl ?_
            refine k_popI ?_
            refine k_aload_n rfl ?_
            have t208 := t173.x e198
            have c209 := (t129.mrt r122 (by decide) e160 (by decide)).trans c132
            have c210 := (t173.mr e198 (by decide)).trans c209
            refine k_get kg241 t208 (congrArg (fun z : Option Nat => (Sum.inr (Sum.inr z) : AvC)) c210) ?_
            have t211 := t134.xt r122 (by decide) e160
            have t212 := t211.x e198
            obtain ⟨a215, e213, c214, t216, l217, l218⟩ := cg303 H197.1 t212
            refine k_get kg303 t212 e213 ?_
            refine k_aload_n rfl ?_
            refine k_get kg242 t208 (congrArg (Sum.inl : Int32 → AvC) c204) ?_
            refine k_bipush (m := 100) rfl (fun x219 h220 => ?_)
            refine k_iload_n rfl ?_
            refine k_iadd (by omega) (by omega) (fun x221 h222 => ?_)
            refine k_iastore H197 t216 l218 (by omega) (by omega) (fun σ223 H224 e225 => ?_)
            refine k_aload_n rfl ?_
            have t226 := t208.x e225
            have R227 : RdC p0 none (-4) (-4) (-999) σ0 σ194 := R184.tr ⟨g199, (e198.cou2 (u := 1) H159.1 t173 (by decide) (by omega) q203)⟩ (by omega) (by omega) (by omega) (by omega)
            have R228 : RdC p0 none (-4) (-4) (-999) σ0 σ223 := R227.tr ⟨(e225.gw H197.1 (by decide)), (e225.cou (u := 0) H197.1 t208 (by decide) (by rw [e225.cn (by decide)]; omega))⟩ (by omega) (by omega) (by omega) (by omega)
            have c229 := (t208.mi e225 (by decide)).trans c205
            have R230 := R228.nf (-1000) (-1000) (by rw [c229]; omega)
            have X231 : ExC [0, 1, 2, 60, 61, 62, 63, 64, 65, 66, 67, 68, 69, 70, 72, 73, 74, 75, 76, 180, 182, 183, 184, 185, 186, 242, 243, 244, 246, 270, 271, 272, 273, 275, 276, 277, 278, 279, 280, 330, 331, 332, 333, 334, 999] σ0 σ194 := X187.tr (e198.mo (by decide))
            have X232 : ExC [0, 1, 2, 60, 61, 62, 63, 64, 65, 66, 67, 68, 69, 70, 72, 73, 74, 75, 76, 180, 182, 183, 184, 185, 186, 242, 243, 244, 246, 270, 271, 272, 273, 275, 276, 277, 278, 279, 280, 330, 331, 332, 333, 334, 999] σ0 σ223 := X231.tr (e225.mo (by decide))
            have c233 := (t208.mi e225 (by decide)).trans c204
            have z234 := congrArg Int32.toInt c233
            have z235 := congrArg Int32.toInt c229
            refine k_inv (P := P_X7_accept) (Q := Q_X7_accept) rfl rfl rfl rfl (Nat.le_of_ble_eq_true rfl) (t226.rc (by decide)) ⟨_, rfl, H224, t226, (rd_cd.st H0 h_0_0 X232 R230.1 (by decide)), (R230.2.2.2.1 rd_at), (rd_bg.stn H0 h_0_0 X232 R230 (by decide) (by rw [c229]; omega) (by omega)), (by have ct := R230.2.2.1; rw [c229, c233, ct]; omega)⟩ (fun w236 σ237 q238 => ?_)
            obtain ⟨rfl, H239, e240, R241, q242⟩ := q238
            have t248 := t226.x e240
            obtain ⟨x243, e244, c245, h246, h247⟩ := cg242 H239.1 t248
            obtain ⟨x249, e250, c251, h252, h253⟩ := cg243 H239.1 t248
            have z254 := congrArg Int32.toInt c245
            have z255 := congrArg Int32.toInt c251
            refine k_st (st' := []) rfl ?_
            have R256 : RdC p0 none (-12) (-4) (-1000) σ0 σ237 := R230.tr ⟨R241.1, R241.2⟩ (by omega) (by omega) (by omega) (by omega)
            have z257 := R256.2.2.1
            have z258 := R256.2.2.2.1 rd_at
            refine k_aload_n rfl ?_
            refine k_lconst ?_
            refine k_putL kg245 H239 t248 fk245 (fun σ259 H260 e261 c262 => ?_)
            refine k_aload_n rfl ?_
            refine k_aconst_null ?_
            have t263 := t248.x e261
            refine k_putR kp246 H260 t263 fk246 (rfo246 (OtC.n)) (fun σ264 H265 e266 c267 => ?_)
            refine k_aload_n rfl ?_
            refine k_aload_n rfl ?_
            have t268 := t263.x e266
            have t269 := t161.x e198
            have t270 := t269.x e225
            have t271 := t270.x e240
            have t272 := t271.x e261
            have t273 := t272.x e266
            have R274 : RdC p0 none (-12) (-4) (-1000) σ0 σ259 := R256.tr ⟨(e261.gw H239.1 (by decide)), (e261.cou (u := 0) H239.1 t248 (by decide) (by rw [e261.cn (by decide)]; omega))⟩ (by omega) (by omega) (by omega) (by omega)
            have R275 : RdC p0 none (-12) (-4) (-1000) σ0 σ264 := R274.tr ⟨(e266.gw H260.1 (by decide)), (e266.cou (u := 0) H260.1 t263 (by decide) (by rw [e266.cn (by decide)]; omega))⟩ (by omega) (by omega) (by omega) (by omega)
            have c276 := (t248.mi e261 (by decide)).trans c251
            have c277 := (t263.mi e266 (by decide)).trans c276
            have X278 : ExC [0, 1, 2, 60, 61, 62, 63, 64, 65, 66, 67, 68, 69, 70, 72, 73, 74, 75, 76, 180, 182, 183, 184, 185, 186, 242, 243, 244, 246, 270, 271, 272, 273, 275, 276, 277, 278, 279, 280, 330, 331, 332, 333, 334, 999] σ0 σ237 := X232.tr (e240.mo (by decide))
            have X279 : ExC [0, 1, 2, 60, 61, 62, 63, 64, 65, 66, 67, 68, 69, 70, 72, 73, 74, 75, 76, 180, 182, 183, 184, 185, 186, 242, 243, 244, 246, 270, 271, 272, 273, 275, 276, 277, 278, 279, 280, 330, 331, 332, 333, 334, 999] σ0 σ259 := X278.tr (e261.mo (by decide))
            have X280 : ExC [0, 1, 2, 60, 61, 62, 63, 64, 65, 66, 67, 68, 69, 70, 72, 73, 74, 75, 76, 180, 182, 183, 184, 185, 186, 242, 243, 244, 246, 270, 271, 272, 273, 275, 276, 277, 278, 279, 280, 330, 331, 332, 333, 334, 999] σ0 σ264 := X279.tr (e266.mo (by decide))
            have c281 := (t248.mi e261 (by decide)).trans c245
            have c282 := (t263.mi e266 (by decide)).trans c281
            have z283 := congrArg Int32.toInt c282
            have z284 := congrArg Int32.toInt c277
            refine k_inv (P := P_X7_readParams) (Q := Q_X7_readParams) rfl rfl rfl rfl (Nat.le_of_ble_eq_true rfl) (t268.rc (by decide)) ⟨_, _, rfl, H265, t268, t273, (rd_cd.st H0 h_0_0 X280 R275.1 (by decide)), (R275.2.2.2.1 rd_at), (rd_bg.st H0 h_0_0 X280 R275 (by decide) (by omega) (by omega) (by omega))⟩ (fun w285 σ286 q287 => ?_)
            obtain ⟨rfl, H288, e289, R290⟩ := q287
            have t296 := t268.x e289
            obtain ⟨x291, e292, c293, h294, h295⟩ := cg242 H288.1 t296
            obtain ⟨x297, e298, c299, h300, h301⟩ := cg243 H288.1 t296
            have z302 := congrArg Int32.toInt c293
            have z303 := congrArg Int32.toInt c299
            refine k_st (st' := []) rfl ?_
            have R304 : RdC p0 none (-12) (-2) (-1000) σ0 σ286 := R275.tr ⟨R290.1, R290.2⟩ (by omega) (by omega) (by omega) (by omega)
            have z305 := R304.2.2.1
            have z306 := R304.2.2.2.1 rd_at
            refine k_aload_n rfl ?_
            refine k_aload_n rfl ?_
            refine k_iconst (m := 0) rfl (fun x307 h308 => ?_)
            have X309 : ExC [0, 1, 2, 60, 61, 62, 63, 64, 65, 66, 67, 68, 69, 70, 72, 73, 74, 75, 76, 180, 182, 183, 184, 185, 186, 242, 243, 244, 246, 270, 271, 272, 273, 275, 276, 277, 278, 279, 280, 330, 331, 332, 333, 334, 999] σ0 σ286 := X280.tr (e289.mo (by decide))
            refine k_inv (P := (P_X7_readBody 21)) (Q := (Q_X7_readBody 21)) rfl rfl rfl rfl (Nat.le_of_ble_eq_true rfl) (t296.rc (by decide)) ⟨_, _, rfl, H288, t296, (by omega), (by omega), (rd_cd.st H0 h_0_0 X309 R304.1 (by decide)), (R304.2.2.2.1 rd_at), (rd_bg.st H0 h_0_0 X309 R304 (by decide) (by omega) (by omega) (by omega)), (by omega)⟩ (fun w310 σ311 q312 => ?_)
            obtain ⟨a313, rfl, H314, e315, h317, R316, q318, q319, q320⟩ := q312
            have t326 := t296.x e315
            obtain ⟨x321, e322, c323, h324, h325⟩ := cg242 H314.1 t326
            obtain ⟨x327, e328, c329, h330, h331⟩ := cg243 H314.1 t326
            have z332 := congrArg Int32.toInt c323
            have z333 := congrArg Int32.toInt c329
            refine k_st (st' := [.inr (.inr (some a313)), .inr (.inr (some a117))]) rfl ?_
            have z334 := R304.1.1
            obtain ⟨x335, e336, c337, h338, h339⟩ := cg272 H314.1 h317
            rw [c337] at q319
            obtain ⟨x340, e341, c342, h343, h344⟩ := cg270 H314.1 h317
            rw [c342] at q320
            have R345 : RdC p0 none (-18) (174) (-998) σ0 σ311 := R304.tr ⟨R316.1, R316.2⟩ (by omega) (by omega) (by omega) (by omega)
            have z346 := R345.2.2.1
            have z347 := R345.2.2.2.1 rd_at
            have t353 := t273.x e289
            have t354 := t353.x e315
            refine k_p186 H314 t354 h317 (by rw [c342]; omega) (fun σ348 H349 e350 g351 c352 => ?_)
            refine k_return ?_
            have X355 : ExC [0, 1, 2, 60, 61, 62, 63, 64, 65, 66, 67, 68, 69, 70, 72, 73, 74, 75, 76, 180, 182, 183, 184, 185, 186, 242, 243, 244, 246, 270, 271, 272, 273, 275, 276, 277, 278, 279, 280, 330, 331, 332, 333, 334, 999] σ0 σ311 := X309.tr (e315.mo (by decide))
            have X356 : ExC [0, 1, 2, 60, 61, 62, 63, 64, 65, 66, 67, 68, 69, 70, 72, 73, 74, 75, 76, 180, 182, 183, 184, 185, 186, 242, 243, 244, 246, 270, 271, 272, 273, 275, 276, 277, 278, 279, 280, 330, 331, 332, 333, 334, 999] σ0 σ348 := X355.tr (e350.mo (by decide))
            have R357 : RdC p0 none (-18) (174) (-998) σ0 σ348 := R345.tr ⟨g351, (e350.cou (u := 0) H314.1 t326 (by decide) (by rw [e350.cn (by decide)]; omega))⟩ (by omega) (by omega) (by omega) (by omega)
            have c358 := (t326.mi e350 (by decide)).trans c329
            have c359 := (t326.mi e350 (by decide)).trans c323
            exact ⟨rfl, H349, X356, (R357.mo (by omega) (by omega) (by omega))⟩
          · refine k_nil ?_
            refine hB _ _ _ _ (kgoC (is := KX7_readMethod_70) rfl ?_)
            refine k_aload_n rfl ?_
            refine k_iconst (m := 3) rfl (fun x360 h361 => ?_)
            have R362 := R75.nf (-1000) (-1000) (by rw [c70]; omega)
            refine k_inv (P := P_X7_raise) (Q := Q_X7_raise) rfl rfl rfl rfl (Nat.le_of_ble_eq_true rfl) (t67.rc (by decide)) ⟨_, _, rfl, H58, t67, (by omega), (by omega), (rd_cd.st H0 h_0_0 X96 R362.1 (by decide)), (R362.2.2.2.1 rd_at), (rd_bg.stn H0 h_0_0 X96 R362 (by decide) (by rw [c70]; omega) (by omega))⟩ (fun w363 σ364 q365 => ?_)
            obtain ⟨rfl, H366, e367, R368, q369⟩ := q365
            have c370 := (t67.mi e367 (by decide)).trans c64
            have t376 := t67.x e367
            obtain ⟨x371, e372, c373, h374, h375⟩ := cg243 H366.1 t376
            have z377 := congrArg Int32.toInt c370
            have z378 := congrArg Int32.toInt c373
            refine k_st (st' := []) rfl ?_
            have h379 : 1 ≤ x371.toInt := by have hq := q369; rw [c373] at hq; omega
            refine k_nil ?_
            refine hB _ _ _ _ (kgoC (is := KX7_readMethod_75) rfl ?_)
            refine k_aload_n rfl ?_
            refine k_get kg243 t376 (congrArg (Sum.inl : Int32 → AvC) c373) ?_
            refine k_if_eq (fun h380 => by exfalso; omega) (fun h380 => ?_)
            refine k_nil ?_
            refine hB _ _ _ _ (kgoC (is := KX7_readMethod_82) rfl ?_)
            refine k_return ?_
            have X381 : ExC [0, 1, 2, 60, 61, 62, 63, 64, 65, 66, 67, 68, 69, 70, 72, 73, 74, 75, 76, 180, 182, 183, 184, 185, 186, 242, 243, 244, 246, 270, 271, 272, 273, 275, 276, 277, 278, 279, 280, 330, 331, 332, 333, 334, 999] σ0 σ364 := X96.tr (e367.mo (by decide))
            have R382 : RdC p0 none (-8) (-8) (-1000) σ0 σ364 := R362.tr ⟨R368.1, R368.2⟩ (by omega) (by omega) (by omega) (by omega)
            exact ⟨rfl, H366, X381, ((R382.ft (0) (by rw [c373]; omega)).mo (by omega) (by omega) (by omega))⟩
        · refine k_nil ?_
          refine hB _ _ _ _ (kgoC (is := KX7_readMethod_56) rfl ?_)
          refine k_aload_n rfl ?_
          refine k_iconst (m := 2) rfl (fun x383 h384 => ?_)
          refine k_inv (P := P_X7_raise) (Q := Q_X7_raise) rfl rfl rfl rfl (Nat.le_of_ble_eq_true rfl) (t67.rc (by decide)) ⟨_, _, rfl, H58, t67, (by omega), (by omega), (rd_cd.st H0 h_0_0 X96 R75.1 (by decide)), (R75.2.2.2.1 rd_at), (rd_bg.st H0 h_0_0 X96 R75 (by decide) (by omega) (by omega) (by omega))⟩ (fun w385 σ386 q387 => ?_)
          obtain ⟨rfl, H388, e389, R390, q391⟩ := q387
          have c392 := (t67.mi e389 (by decide)).trans c64
          have t398 := t67.x e389
          obtain ⟨x393, e394, c395, h396, h397⟩ := cg243 H388.1 t398
          have z399 := congrArg Int32.toInt c392
          have z400 := congrArg Int32.toInt c395
          refine k_st (st' := []) rfl ?_
          have h401 : 1 ≤ x393.toInt := by have hq := q391; rw [c395] at hq; omega
          refine k_goto ?_
          refine hB _ _ _ _ (kgoC (is := KX7_readMethod_75) rfl ?_)
          refine k_aload_n rfl ?_
          refine k_get kg243 t398 (congrArg (Sum.inl : Int32 → AvC) c395) ?_
          refine k_if_eq (fun h402 => by exfalso; omega) (fun h402 => ?_)
          refine k_nil ?_
          refine hB _ _ _ _ (kgoC (is := KX7_readMethod_82) rfl ?_)
          refine k_return ?_
          have X403 : ExC [0, 1, 2, 60, 61, 62, 63, 64, 65, 66, 67, 68, 69, 70, 72, 73, 74, 75, 76, 180, 182, 183, 184, 185, 186, 242, 243, 244, 246, 270, 271, 272, 273, 275, 276, 277, 278, 279, 280, 330, 331, 332, 333, 334, 999] σ0 σ386 := X96.tr (e389.mo (by decide))
          have R404 : RdC p0 none (-8) (0) (-1000) σ0 σ386 := R75.tr ⟨R390.1, R390.2⟩ (by omega) (by omega) (by omega) (by omega)
          exact ⟨rfl, H388, X403, ((R404.ft (0) (by rw [c395]; omega)).mo (by omega) (by omega) (by omega))⟩
      · refine k_nil ?_
        refine hB _ _ _ _ (kgoC (is := KX7_readMethod_27) rfl ?_)
        refine k_aload_n rfl ?_
        refine k_iconst (m := 2) rfl (fun x405 h406 => ?_)
        refine k_inv (P := P_X7_raise) (Q := Q_X7_raise) rfl rfl rfl rfl (Nat.le_of_ble_eq_true rfl) (h_0_0.rc (by decide)) ⟨_, _, rfl, H0, h_0_0, (by omega), (by omega), (rd_cd.st H0 h_0_0 (ExC.rf : ExC [0, 1, 2, 60, 61, 62, 63, 64, 65, 66, 67, 68, 69, 70, 72, 73, 74, 75, 76, 180, 182, 183, 184, 185, 186, 242, 243, 244, 246, 270, 271, 272, 273, 275, 276, 277, 278, 279, 280, 330, 331, 332, 333, 334, 999] σ0 σ0) R14.1 (by decide)), (R14.2.2.2.1 rd_at), (rd_bg.stn H0 h_0_0 (ExC.rf : ExC [0, 1, 2, 60, 61, 62, 63, 64, 65, 66, 67, 68, 69, 70, 72, 73, 74, 75, 76, 180, 182, 183, 184, 185, 186, 242, 243, 244, 246, 270, 271, 272, 273, 275, 276, 277, 278, 279, 280, 330, 331, 332, 333, 334, 999] σ0 σ0) R14 (by decide) (by rw [c8]; omega) (by omega))⟩ (fun w407 σ408 q409 => ?_)
        obtain ⟨rfl, H410, e411, R412, q413⟩ := q409
        have c414 := (h_0_0.mi e411 (by decide)).trans c3
        have t420 := h_0_0.x e411
        obtain ⟨x415, e416, c417, h418, h419⟩ := cg243 H410.1 t420
        have z421 := congrArg Int32.toInt c414
        have z422 := congrArg Int32.toInt c417
        refine k_st (st' := []) rfl ?_
        have h423 : 1 ≤ x415.toInt := by have hq := q413; rw [c417] at hq; omega
        refine k_nil ?_
        refine hB _ _ _ _ (kgoC (is := KX7_readMethod_32) rfl ?_)
        refine k_aload_n rfl ?_
        have R424 : RdC p0 none (0) (0) (-1000) σ0 σ408 := R14.tr ⟨R412.1, R412.2⟩ (by omega) (by omega) (by omega) (by omega)
        have X425 : ExC [0, 1, 2, 60, 61, 62, 63, 64, 65, 66, 67, 68, 69, 70, 72, 73, 74, 75, 76, 180, 182, 183, 184, 185, 186, 242, 243, 244, 246, 270, 271, 272, 273, 275, 276, 277, 278, 279, 280, 330, 331, 332, 333, 334, 999] σ0 σ408 := ExC.rf.tr (e411.mo (by decide))
        refine k_inv (P := P_X7_accept) (Q := Q_X7_accept) rfl rfl rfl rfl (Nat.le_of_ble_eq_true rfl) (t420.rc (by decide)) ⟨_, rfl, H410, t420, (rd_cd.st H0 h_0_0 X425 R424.1 (by decide)), (R424.2.2.2.1 rd_at), (rd_bg.st H0 h_0_0 X425 R424 (by decide) (by omega) (by omega) (by omega)), (by have ct := R424.2.2.1; rw [c417, c414, ct]; omega)⟩ (fun w426 σ427 q428 => ?_)
        obtain ⟨rfl, H429, e430, R431, q432⟩ := q428
        have t438 := t420.x e430
        obtain ⟨x433, e434, c435, h436, h437⟩ := cg242 H429.1 t438
        obtain ⟨x439, e440, c441, h442, h443⟩ := cg243 H429.1 t438
        have z444 := congrArg Int32.toInt c435
        have z445 := congrArg Int32.toInt c441
        refine k_st (st' := []) rfl ?_
        have R446 : RdC p0 none (-8) (0) (-1000) σ0 σ427 := R424.tr ⟨R431.1, R431.2⟩ (by omega) (by omega) (by omega) (by omega)
        have z447 := R446.2.2.1
        have z448 := R446.2.2.2.1 rd_at
        refine k_aload_n rfl ?_
        obtain ⟨a451, e449, c450, t452⟩ := cg240 H429.1 t438
        refine k_get kg240 t438 e449 ?_
        obtain ⟨a455, e453, c454, t456, l457⟩ := cg211 H429.1 t452
        refine k_get kg211 t452 e453 ?_
        refine k_inv (P := P_Jx4a65c_size_8abf5) (Q := Q_Jx4a65c_size_8abf5) rfl rfl rfl rfl (Nat.le_of_ble_eq_true rfl) (t456.rc (by decide)) ⟨_, rfl, H429, t456⟩ (fun w458 σ459 q460 => ?_)
        obtain ⟨x461, rfl, rfl, h462, h463, q464, q465⟩ := q460
        refine k_st (st' := [.inl x461]) rfl ?_
        have z466 := q465 l457
        refine k_istore_n (ls' := [(2, .inl x461), (1, .inl x26), (0, .inr (.inr (some p0)))]) rfl ?_
        refine k_aload_n rfl ?_
        have X467 : ExC [0, 1, 2, 60, 61, 62, 63, 64, 65, 66, 67, 68, 69, 70, 72, 73, 74, 75, 76, 180, 182, 183, 184, 185, 186, 242, 243, 244, 246, 270, 271, 272, 273, 275, 276, 277, 278, 279, 280, 330, 331, 332, 333, 334, 999] σ0 σ427 := X425.tr (e430.mo (by decide))
        refine k_inv (P := P_X7_code) (Q := Q_X7_code) rfl rfl rfl rfl (Nat.le_of_ble_eq_true rfl) (t438.rc (by decide)) ⟨_, rfl, H429, t438, (rd_cd.st H0 h_0_0 X467 R446.1 (by decide))⟩ (fun w468 σ469 q470 => ?_)
        obtain ⟨x471, rfl, rfl, q472, q473, q474⟩ := q470
        refine k_st (st' := [.inl x471]) rfl ?_
        refine k_bipush (m := 80) rfl (fun x475 h476 => ?_)
        refine k_ic_eq (fun h477 => ?_) (fun h477 => ?_)
        · have h478 : x439.toInt = 0 := by omega
          refine hB _ _ _ _ (kgoC (is := KX7_readMethod_64) rfl ?_)
          refine k_iload_n rfl ?_
          refine k_bipush (m := 10) rfl (fun x479 h480 => ?_)
          refine k_ic_lt (fun h481 => ?_) (fun h481 => ?_)
          · refine hB _ _ _ _ (kgoC (is := KX7_readMethod_75) rfl ?_)
            refine k_aload_n rfl ?_
            refine k_get kg243 t438 (congrArg (Sum.inl : Int32 → AvC) c441) ?_
            refine k_if_eq (fun h482 => ?_) (fun h482 => by exfalso; omega)
            refine hB _ _ _ _ (kgoC (is := KX7_readMethod_83) rfl ?_)
            have R483 := R446.nf (-1000) (-1000) (by rw [c441]; omega)
            have B484 : BgC σ427 p0 3 3 := rd_bg.stn H0 h_0_0 X467 R483 (by decide) (by rw [c441]; omega) (by omega)
            obtain ⟨h485, h486⟩ := B484.new H429.1 t438 (u := 3) (by omega) (by omega)
            have z487 := R483.1.1
            refine k_new (c := 6) (g := 0) H429 (by decide) rfl (by omega) (by have hn : nfC 6 = 7 := rfl; omega) (fun a488 σ489 q490 H491 e492 r493 z494 l495 u496 u497 => ?_)
            rw [show nfC 6 = 7 from rfl] at u497
            have u498 : cpC σ489 = cpC σ427 := congrArg Prod.fst e492.2.1.1
            have u499 : spC σ489 = spC σ427 := congrArg Prod.snd e492.2.1.1
            refine k_dupR ?_
            refine k_aload_n rfl ?_
            have t500 := t438.x e492
            have c501 := (t438.mi e492 (by decide)).trans c435
            refine k_get kg242 t500 (congrArg (Sum.inl : Int32 → AvC) c501) ?_
            refine k_aload_n rfl ?_
            obtain ⟨a504, e502, c503, t505⟩ := cg241 H491.1 t500
            refine k_get kg241 t500 e502 ?_
            obtain ⟨a508, e506, c507, t509, l510⟩ := cg304 H491.1 t505
            refine k_get kg304 t505 e506 ?_
            refine k_aload_n rfl ?_
            refine k_get kg242 t500 (congrArg (Sum.inl : Int32 → AvC) c501) ?_
            refine k_laload t509 (by omega) (by omega) (fun y511 => ?_)
            refine k_iload_n rfl ?_
            refine k_aload_n rfl ?_
            have c512 := (t438.mr e492 (by decide)).trans c450
            refine k_get kg240 t500 (congrArg (fun z : Option Nat => (Sum.inr (Sum.inr z) : AvC)) c512) ?_
            have t513 := t452.x e492
            obtain ⟨a516, e514, c515, t517, l518⟩ := cg212 H491.1 t513
            refine k_get kg212 t513 e514 ?_
            refine k_inv (P := P_Jx4a65c_size_8abf5) (Q := Q_Jx4a65c_size_8abf5) rfl rfl rfl rfl (Nat.le_of_ble_eq_true rfl) (t517.rc (by decide)) ⟨_, rfl, H491, t517⟩ (fun w519 σ520 q521 => ?_)
            obtain ⟨x522, rfl, rfl, h523, h524, q525, q526⟩ := q521
            refine k_st (st' := [.inl x522, .inl x26, .inr (.inl y511), .inl x433, .inr (.inr (some a488)), .inr (.inr (some a488))]) rfl ?_
            refine k_spec (P := P_X5_init) (Q := Q_X5_init) rfl rfl rfl rfl (Nat.le_of_ble_eq_true rfl) ⟨_, _, _, _, _, rfl, H491, r493, z494, (by omega), (by omega), (by omega), (by omega)⟩ (fun w527 σ528 q529 => ?_)
            obtain ⟨rfl, H530, e531, t532, l533, u534, u535, g536, q538⟩ := q529
            have l537 := l533.trans l495
            have c539 := (t500.mit r493 (by decide) e531 (by decide)).trans c501
            have c540 := (t438.mi e492 (by decide)).trans c441
            have c541 := (t500.mit r493 (by decide) e531 (by decide)).trans c540
            have z542 := congrArg Int32.toInt c539
            have z543 := congrArg Int32.toInt c541
            refine k_st (st' := [.inr (.inr (some a488))]) rfl ?_
            refine k_astore_n (ls' := [(3, .inr (.inr (some a488))), (2, .inl x461), (1, .inl x26), (0, .inr (.inr (some p0)))]) rfl ?_
            refine k_aload_n rfl ?_
            have t544 := t500.xt r493 (by decide) e531
            have c545 := (t500.mrt r493 (by decide) e531 (by decide)).trans c512
            refine k_get kg240 t544 (congrArg (fun z : Option Nat => (Sum.inr (Sum.inr z) : AvC)) c545) ?_
            have t546 := t513.xt r493 (by decide) e531
            have c547 := (t452.mr e492 (by decide)).trans c454
            have c548 := (t513.mrt r493 (by decide) e531 (by decide)).trans c547
            refine k_get kg211 t546 (congrArg (fun z : Option Nat => (Sum.inr (Sum.inr z) : AvC)) c548) ?_
            refine k_aload_n rfl ?_
            have t549 := t456.x e492
            have t550 := t549.xt r493 (by decide) e531
            have l551 := (t456.gh e492).trans l457
            have l552 := (t549.ght r493 (by decide) e531).trans l551
            have R553 : RdC p0 none (-7) (-7) (-999) σ0 σ489 := R483.tr ⟨(e492.gwn H429.1 u496 u497 (by decide) (by rw [← q490]; exact r493.n0)), (e492.cou (u := 1) H429.1 t438 (by decide) (by omega))⟩ (by omega) (by omega) (by omega) (by omega)
            have R554 : RdC p0 none (-5) (-5) (-997) σ0 σ528 := R553.tr ⟨g536, (e531.co (u := 2) H491.1 t500 r493 (by decide) (by omega))⟩ (by omega) (by omega) (by omega) (by omega)
            have R555 := R554.nf (-1000) (-1000) (by rw [c541]; omega)
            have X556 : ExC [0, 1, 2, 60, 61, 62, 63, 64, 65, 66, 67, 68, 69, 70, 72, 73, 74, 75, 76, 180, 182, 183, 184, 185, 186, 242, 243, 244, 246, 270, 271, 272, 273, 275, 276, 277, 278, 279, 280, 330, 331, 332, 333, 334, 999] σ427 σ489 := ExC.rf.tr (e492.mo (by decide))
            have X557 : ExC [0, 1, 2, 60, 61, 62, 63, 64, 65, 66, 67, 68, 69, 70, 72, 73, 74, 75, 76, 180, 182, 183, 184, 185, 186, 242, 243, 244, 246, 270, 271, 272, 273, 275, 276, 277, 278, 279, 280, 330, 331, 332, 333, 334, 999] σ427 σ528 := (X556 : ExC [0, 1, 2, 60, 61, 62, 63, 64, 65, 66, 67, 68, 69, 70, 72, 73, 74, 75, 76, 180, 182, 183, 184, 185, 186, 242, 243, 244, 246, 270, 271, 272, 273, 275, 276, 277, 278, 279, 280, 330, 331, 332, 333, 334, 999] σ427 σ489).nt (Nat.le_of_eq q490.symm) (e531.mo (by decide))
            have X558 : ExC [0, 1, 2, 60, 61, 62, 63, 64, 65, 66, 67, 68, 69, 70, 72, 73, 74, 75, 76, 180, 182, 183, 184, 185, 186, 242, 243, 244, 246, 270, 271, 272, 273, 275, 276, 277, 278, 279, 280, 330, 331, 332, 333, 334, 999] σ0 σ528 := X467.tr X557
            have B559 : BgC σ528 p0 1 1 := rd_bg.stn H0 h_0_0 X558 R555 (by decide) (by rw [c541]; omega) (by omega)
            obtain ⟨h560, h561⟩ := B559.new H530.1 t544 (u := 1) (by omega) (by omega)
            have c562 := (t456.mi e492 (by decide)).trans q464
            have c563 := (t549.mit r493 (by decide) e531 (by decide)).trans c562
            refine k_inv (P := P_Jx4a65c_add_9ea2d) (Q := Q_Jx4a65c_add_9ea2d) rfl rfl rfl rfl (Nat.le_of_ble_eq_true rfl) (t550.rc (by decide)) ⟨_, _, rfl, H530, t550, (by rw [l552]; exact ⟨t532, by decide, fun hz => by rw [q538]; omega⟩), (B559.sz H530.1 t544 (by omega) (by omega) c545 (by decide) c548), h560, (by omega), (fun _ => by rw [c563] <;> omega)⟩ (fun w564 σ565 q566 => ?_)
            obtain ⟨x567, rfl, H568, e569, h571, h572, g570, q573, q574⟩ := q566
            have c575 := (t544.mi e569 (by decide)).trans c539
            have c576 := (t544.mi e569 (by decide)).trans c541
            have z577 := congrArg Int32.toInt c575
            have z578 := congrArg Int32.toInt c576
            refine k_st (st' := [.inl x567]) rfl ?_
            refine k_popI ?_
            refine k_aload_n rfl ?_
            have t579 := t544.x e569
            have c580 := (t500.mrt r493 (by decide) e531 (by decide)).trans c503
            have c581 := (t544.mr e569 (by decide)).trans c580
            refine k_get kg241 t579 (congrArg (fun z : Option Nat => (Sum.inr (Sum.inr z) : AvC)) c581) ?_
            have t582 := t505.xt r493 (by decide) e531
            have t583 := t582.x e569
            obtain ⟨a586, e584, c585, t587, l588, l589⟩ := cg303 H568.1 t583
            refine k_get kg303 t583 e584 ?_
            refine k_aload_n rfl ?_
            refine k_get kg242 t579 (congrArg (Sum.inl : Int32 → AvC) c575) ?_
            refine k_bipush (m := 100) rfl (fun x590 h591 => ?_)
            refine k_iload_n rfl ?_
            refine k_iadd (by omega) (by omega) (fun x592 h593 => ?_)
            refine k_iastore H568 t587 l589 (by omega) (by omega) (fun σ594 H595 e596 => ?_)
            refine k_aload_n rfl ?_
            have t597 := t579.x e596
            have R598 : RdC p0 none (-4) (-4) (-999) σ0 σ565 := R555.tr ⟨g570, (e569.cou2 (u := 1) H530.1 t544 (by decide) (by omega) q574)⟩ (by omega) (by omega) (by omega) (by omega)
            have R599 : RdC p0 none (-4) (-4) (-999) σ0 σ594 := R598.tr ⟨(e596.gw H568.1 (by decide)), (e596.cou (u := 0) H568.1 t579 (by decide) (by rw [e596.cn (by decide)]; omega))⟩ (by omega) (by omega) (by omega) (by omega)
            have c600 := (t579.mi e596 (by decide)).trans c576
            have R601 := R599.nf (-1000) (-1000) (by rw [c600]; omega)
            have X602 : ExC [0, 1, 2, 60, 61, 62, 63, 64, 65, 66, 67, 68, 69, 70, 72, 73, 74, 75, 76, 180, 182, 183, 184, 185, 186, 242, 243, 244, 246, 270, 271, 272, 273, 275, 276, 277, 278, 279, 280, 330, 331, 332, 333, 334, 999] σ0 σ565 := X558.tr (e569.mo (by decide))
            have X603 : ExC [0, 1, 2, 60, 61, 62, 63, 64, 65, 66, 67, 68, 69, 70, 72, 73, 74, 75, 76, 180, 182, 183, 184, 185, 186, 242, 243, 244, 246, 270, 271, 272, 273, 275, 276, 277, 278, 279, 280, 330, 331, 332, 333, 334, 999] σ0 σ594 := X602.tr (e596.mo (by decide))
            have c604 := (t579.mi e596 (by decide)).trans c575
            have z605 := congrArg Int32.toInt c604
            have z606 := congrArg Int32.toInt c600
            refine k_inv (P := P_X7_accept) (Q := Q_X7_accept) rfl rfl rfl rfl (Nat.le_of_ble_eq_true rfl) (t597.rc (by decide)) ⟨_, rfl, H595, t597, (rd_cd.st H0 h_0_0 X603 R601.1 (by decide)), (R601.2.2.2.1 rd_at), (rd_bg.stn H0 h_0_0 X603 R601 (by decide) (by rw [c600]; omega) (by omega)), (by have ct := R601.2.2.1; rw [c600, c604, ct]; omega)⟩ (fun w607 σ608 q609 => ?_)
            obtain ⟨rfl, H610, e611, R612, q613⟩ := q609
            have t619 := t597.x e611
            obtain ⟨x614, e615, c616, h617, h618⟩ := cg242 H610.1 t619
            obtain ⟨x620, e621, c622, h623, h624⟩ := cg243 H610.1 t619
            have z625 := congrArg Int32.toInt c616
            have z626 := congrArg Int32.toInt c622
            refine k_st (st' := []) rfl ?_
            have R627 : RdC p0 none (-12) (-4) (-1000) σ0 σ608 := R601.tr ⟨R612.1, R612.2⟩ (by omega) (by omega) (by omega) (by omega)
            have z628 := R627.2.2.1
            have z629 := R627.2.2.2.1 rd_at
            refine k_aload_n rfl ?_
            refine k_lconst ?_
            refine k_putL kg245 H610 t619 fk245 (fun σ630 H631 e632 c633 => ?_)
            refine k_aload_n rfl ?_
            refine k_aconst_null ?_
            have t634 := t619.x e632
            refine k_putR kp246 H631 t634 fk246 (rfo246 (OtC.n)) (fun σ635 H636 e637 c638 => ?_)
            refine k_aload_n rfl ?_
            refine k_aload_n rfl ?_
            have t639 := t634.x e637
            have t640 := t532.x e569
            have t641 := t640.x e596
            have t642 := t641.x e611
            have t643 := t642.x e632
            have t644 := t643.x e637
            have R645 : RdC p0 none (-12) (-4) (-1000) σ0 σ630 := R627.tr ⟨(e632.gw H610.1 (by decide)), (e632.cou (u := 0) H610.1 t619 (by decide) (by rw [e632.cn (by decide)]; omega))⟩ (by omega) (by omega) (by omega) (by omega)
            have R646 : RdC p0 none (-12) (-4) (-1000) σ0 σ635 := R645.tr ⟨(e637.gw H631.1 (by decide)), (e637.cou (u := 0) H631.1 t634 (by decide) (by rw [e637.cn (by decide)]; omega))⟩ (by omega) (by omega) (by omega) (by omega)
            have c647 := (t619.mi e632 (by decide)).trans c622
            have c648 := (t634.mi e637 (by decide)).trans c647
            have X649 : ExC [0, 1, 2, 60, 61, 62, 63, 64, 65, 66, 67, 68, 69, 70, 72, 73, 74, 75, 76, 180, 182, 183, 184, 185, 186, 242, 243, 244, 246, 270, 271, 272, 273, 275, 276, 277, 278, 279, 280, 330, 331, 332, 333, 334, 999] σ0 σ608 := X603.tr (e611.mo (by decide))
            have X650 : ExC [0, 1, 2, 60, 61, 62, 63, 64, 65, 66, 67, 68, 69, 70, 72, 73, 74, 75, 76, 180, 182, 183, 184, 185, 186, 242, 243, 244, 246, 270, 271, 272, 273, 275, 276, 277, 278, 279, 280, 330, 331, 332, 333, 334, 999] σ0 σ630 := X649.tr (e632.mo (by decide))
            have X651 : ExC [0, 1, 2, 60, 61, 62, 63, 64, 65, 66, 67, 68, 69, 70, 72, 73, 74, 75, 76, 180, 182, 183, 184, 185, 186, 242, 243, 244, 246, 270, 271, 272, 273, 275, 276, 277, 278, 279, 280, 330, 331, 332, 333, 334, 999] σ0 σ635 := X650.tr (e637.mo (by decide))
            have c652 := (t619.mi e632 (by decide)).trans c616
            have c653 := (t634.mi e637 (by decide)).trans c652
            have z654 := congrArg Int32.toInt c653
            have z655 := congrArg Int32.toInt c648
            refine k_inv (P := P_X7_readParams) (Q := Q_X7_readParams) rfl rfl rfl rfl (Nat.le_of_ble_eq_true rfl) (t639.rc (by decide)) ⟨_, _, rfl, H636, t639, t644, (rd_cd.st H0 h_0_0 X651 R646.1 (by decide)), (R646.2.2.2.1 rd_at), (rd_bg.st H0 h_0_0 X651 R646 (by decide) (by omega) (by omega) (by omega))⟩ (fun w656 σ657 q658 => ?_)
            obtain ⟨rfl, H659, e660, R661⟩ := q658
            have t667 := t639.x e660
            obtain ⟨x662, e663, c664, h665, h666⟩ := cg242 H659.1 t667
            obtain ⟨x668, e669, c670, h671, h672⟩ := cg243 H659.1 t667
            have z673 := congrArg Int32.toInt c664
            have z674 := congrArg Int32.toInt c670
            refine k_st (st' := []) rfl ?_
            have R675 : RdC p0 none (-12) (-2) (-1000) σ0 σ657 := R646.tr ⟨R661.1, R661.2⟩ (by omega) (by omega) (by omega) (by omega)
            have z676 := R675.2.2.1
            have z677 := R675.2.2.2.1 rd_at
            refine k_aload_n rfl ?_
            refine k_aload_n rfl ?_
            refine k_iconst (m := 0) rfl (fun x678 h679 => ?_)
            have X680 : ExC [0, 1, 2, 60, 61, 62, 63, 64, 65, 66, 67, 68, 69, 70, 72, 73, 74, 75, 76, 180, 182, 183, 184, 185, 186, 242, 243, 244, 246, 270, 271, 272, 273, 275, 276, 277, 278, 279, 280, 330, 331, 332, 333, 334, 999] σ0 σ657 := X651.tr (e660.mo (by decide))
            refine k_inv (P := (P_X7_readBody 21)) (Q := (Q_X7_readBody 21)) rfl rfl rfl rfl (Nat.le_of_ble_eq_true rfl) (t667.rc (by decide)) ⟨_, _, rfl, H659, t667, (by omega), (by omega), (rd_cd.st H0 h_0_0 X680 R675.1 (by decide)), (R675.2.2.2.1 rd_at), (rd_bg.st H0 h_0_0 X680 R675 (by decide) (by omega) (by omega) (by omega)), (by omega)⟩ (fun w681 σ682 q683 => ?_)
            obtain ⟨a684, rfl, H685, e686, h688, R687, q689, q690, q691⟩ := q683
            have t697 := t667.x e686
            obtain ⟨x692, e693, c694, h695, h696⟩ := cg242 H685.1 t697
            obtain ⟨x698, e699, c700, h701, h702⟩ := cg243 H685.1 t697
            have z703 := congrArg Int32.toInt c694
            have z704 := congrArg Int32.toInt c700
            refine k_st (st' := [.inr (.inr (some a684)), .inr (.inr (some a488))]) rfl ?_
            have z705 := R675.1.1
            obtain ⟨x706, e707, c708, h709, h710⟩ := cg272 H685.1 h688
            rw [c708] at q690
            obtain ⟨x711, e712, c713, h714, h715⟩ := cg270 H685.1 h688
            rw [c713] at q691
            have R716 : RdC p0 none (-18) (174) (-998) σ0 σ682 := R675.tr ⟨R687.1, R687.2⟩ (by omega) (by omega) (by omega) (by omega)
            have z717 := R716.2.2.1
            have z718 := R716.2.2.2.1 rd_at
            have t724 := t644.x e660
            have t725 := t724.x e686
            refine k_p186 H685 t725 h688 (by rw [c713]; omega) (fun σ719 H720 e721 g722 c723 => ?_)
            refine k_return ?_
            have X726 : ExC [0, 1, 2, 60, 61, 62, 63, 64, 65, 66, 67, 68, 69, 70, 72, 73, 74, 75, 76, 180, 182, 183, 184, 185, 186, 242, 243, 244, 246, 270, 271, 272, 273, 275, 276, 277, 278, 279, 280, 330, 331, 332, 333, 334, 999] σ0 σ682 := X680.tr (e686.mo (by decide))
            have X727 : ExC [0, 1, 2, 60, 61, 62, 63, 64, 65, 66, 67, 68, 69, 70, 72, 73, 74, 75, 76, 180, 182, 183, 184, 185, 186, 242, 243, 244, 246, 270, 271, 272, 273, 275, 276, 277, 278, 279, 280, 330, 331, 332, 333, 334, 999] σ0 σ719 := X726.tr (e721.mo (by decide))
            have R728 : RdC p0 none (-18) (174) (-998) σ0 σ719 := R716.tr ⟨g722, (e721.cou (u := 0) H685.1 t697 (by decide) (by rw [e721.cn (by decide)]; omega))⟩ (by omega) (by omega) (by omega) (by omega)
            have c729 := (t697.mi e721 (by decide)).trans c700
            have c730 := (t697.mi e721 (by decide)).trans c694
            exact ⟨rfl, H720, X727, (R728.mo (by omega) (by omega) (by omega))⟩
          · refine k_nil ?_
            refine hB _ _ _ _ (kgoC (is := KX7_readMethod_70) rfl ?_)
            refine k_aload_n rfl ?_
            refine k_iconst (m := 3) rfl (fun x731 h732 => ?_)
            have R733 := R446.nf (-1000) (-1000) (by rw [c441]; omega)
            refine k_inv (P := P_X7_raise) (Q := Q_X7_raise) rfl rfl rfl rfl (Nat.le_of_ble_eq_true rfl) (t438.rc (by decide)) ⟨_, _, rfl, H429, t438, (by omega), (by omega), (rd_cd.st H0 h_0_0 X467 R733.1 (by decide)), (R733.2.2.2.1 rd_at), (rd_bg.stn H0 h_0_0 X467 R733 (by decide) (by rw [c441]; omega) (by omega))⟩ (fun w734 σ735 q736 => ?_)
            obtain ⟨rfl, H737, e738, R739, q740⟩ := q736
            have c741 := (t438.mi e738 (by decide)).trans c435
            have t747 := t438.x e738
            obtain ⟨x742, e743, c744, h745, h746⟩ := cg243 H737.1 t747
            have z748 := congrArg Int32.toInt c741
            have z749 := congrArg Int32.toInt c744
            refine k_st (st' := []) rfl ?_
            have h750 : 1 ≤ x742.toInt := by have hq := q740; rw [c744] at hq; omega
            refine k_nil ?_
            refine hB _ _ _ _ (kgoC (is := KX7_readMethod_75) rfl ?_)
            refine k_aload_n rfl ?_
            refine k_get kg243 t747 (congrArg (Sum.inl : Int32 → AvC) c744) ?_
            refine k_if_eq (fun h751 => by exfalso; omega) (fun h751 => ?_)
            refine k_nil ?_
            refine hB _ _ _ _ (kgoC (is := KX7_readMethod_82) rfl ?_)
            refine k_return ?_
            have X752 : ExC [0, 1, 2, 60, 61, 62, 63, 64, 65, 66, 67, 68, 69, 70, 72, 73, 74, 75, 76, 180, 182, 183, 184, 185, 186, 242, 243, 244, 246, 270, 271, 272, 273, 275, 276, 277, 278, 279, 280, 330, 331, 332, 333, 334, 999] σ0 σ735 := X467.tr (e738.mo (by decide))
            have R753 : RdC p0 none (-8) (-8) (-1000) σ0 σ735 := R733.tr ⟨R739.1, R739.2⟩ (by omega) (by omega) (by omega) (by omega)
            exact ⟨rfl, H737, X752, ((R753.ft (0) (by rw [c744]; omega)).mo (by omega) (by omega) (by omega))⟩
        · refine k_nil ?_
          refine hB _ _ _ _ (kgoC (is := KX7_readMethod_56) rfl ?_)
          refine k_aload_n rfl ?_
          refine k_iconst (m := 2) rfl (fun x754 h755 => ?_)
          refine k_inv (P := P_X7_raise) (Q := Q_X7_raise) rfl rfl rfl rfl (Nat.le_of_ble_eq_true rfl) (t438.rc (by decide)) ⟨_, _, rfl, H429, t438, (by omega), (by omega), (rd_cd.st H0 h_0_0 X467 R446.1 (by decide)), (R446.2.2.2.1 rd_at), (rd_bg.st H0 h_0_0 X467 R446 (by decide) (by omega) (by omega) (by omega))⟩ (fun w756 σ757 q758 => ?_)
          obtain ⟨rfl, H759, e760, R761, q762⟩ := q758
          have c763 := (t438.mi e760 (by decide)).trans c435
          have t769 := t438.x e760
          obtain ⟨x764, e765, c766, h767, h768⟩ := cg243 H759.1 t769
          have z770 := congrArg Int32.toInt c763
          have z771 := congrArg Int32.toInt c766
          refine k_st (st' := []) rfl ?_
          have h772 : 1 ≤ x764.toInt := by have hq := q762; rw [c766] at hq; omega
          refine k_goto ?_
          refine hB _ _ _ _ (kgoC (is := KX7_readMethod_75) rfl ?_)
          refine k_aload_n rfl ?_
          refine k_get kg243 t769 (congrArg (Sum.inl : Int32 → AvC) c766) ?_
          refine k_if_eq (fun h773 => by exfalso; omega) (fun h773 => ?_)
          refine k_nil ?_
          refine hB _ _ _ _ (kgoC (is := KX7_readMethod_82) rfl ?_)
          refine k_return ?_
          have X774 : ExC [0, 1, 2, 60, 61, 62, 63, 64, 65, 66, 67, 68, 69, 70, 72, 73, 74, 75, 76, 180, 182, 183, 184, 185, 186, 242, 243, 244, 246, 270, 271, 272, 273, 275, 276, 277, 278, 279, 280, 330, 331, 332, 333, 334, 999] σ0 σ757 := X467.tr (e760.mo (by decide))
          have R775 : RdC p0 none (-8) (0) (-1000) σ0 σ757 := R446.tr ⟨R761.1, R761.2⟩ (by omega) (by omega) (by omega) (by omega)
          exact ⟨rfl, H759, X774, ((R775.ft (0) (by rw [c766]; omega)).mo (by omega) (by omega) (by omega))⟩
    · have h776 := q42 (by omega)
      refine k_if_ne (fun h777 => ?_) (fun h777 => by exfalso; omega)
      refine hB _ _ _ _ (kgoC (is := KX7_readMethod_32) rfl ?_)
      refine k_aload_n rfl ?_
      refine k_inv (P := P_X7_accept) (Q := Q_X7_accept) rfl rfl rfl rfl (Nat.le_of_ble_eq_true rfl) (h_0_0.rc (by decide)) ⟨_, rfl, H0, h_0_0, (rd_cd.st H0 h_0_0 (ExC.rf : ExC [0, 1, 2, 60, 61, 62, 63, 64, 65, 66, 67, 68, 69, 70, 72, 73, 74, 75, 76, 180, 182, 183, 184, 185, 186, 242, 243, 244, 246, 270, 271, 272, 273, 275, 276, 277, 278, 279, 280, 330, 331, 332, 333, 334, 999] σ0 σ0) R14.1 (by decide)), (R14.2.2.2.1 rd_at), (rd_bg.stn H0 h_0_0 (ExC.rf : ExC [0, 1, 2, 60, 61, 62, 63, 64, 65, 66, 67, 68, 69, 70, 72, 73, 74, 75, 76, 180, 182, 183, 184, 185, 186, 242, 243, 244, 246, 270, 271, 272, 273, 275, 276, 277, 278, 279, 280, 330, 331, 332, 333, 334, 999] σ0 σ0) R14 (by decide) (by rw [c8]; omega) (by omega)), (by have ct := R14.2.2.1; rw [c8, c3, ct]; omega)⟩ (fun w778 σ779 q780 => ?_)
      obtain ⟨rfl, H781, e782, R783, q784⟩ := q780
      have t790 := h_0_0.x e782
      obtain ⟨x785, e786, c787, h788, h789⟩ := cg242 H781.1 t790
      obtain ⟨x791, e792, c793, h794, h795⟩ := cg243 H781.1 t790
      have z796 := congrArg Int32.toInt c787
      have z797 := congrArg Int32.toInt c793
      refine k_st (st' := []) rfl ?_
      have R798 : RdC p0 none (-8) (0) (-1000) σ0 σ779 := R14.tr ⟨R783.1, R783.2⟩ (by omega) (by omega) (by omega) (by omega)
      have z799 := R798.2.2.1
      have z800 := R798.2.2.2.1 rd_at
      refine k_aload_n rfl ?_
      obtain ⟨a803, e801, c802, t804⟩ := cg240 H781.1 t790
      refine k_get kg240 t790 e801 ?_
      obtain ⟨a807, e805, c806, t808, l809⟩ := cg211 H781.1 t804
      refine k_get kg211 t804 e805 ?_
      refine k_inv (P := P_Jx4a65c_size_8abf5) (Q := Q_Jx4a65c_size_8abf5) rfl rfl rfl rfl (Nat.le_of_ble_eq_true rfl) (t808.rc (by decide)) ⟨_, rfl, H781, t808⟩ (fun w810 σ811 q812 => ?_)
      obtain ⟨x813, rfl, rfl, h814, h815, q816, q817⟩ := q812
      refine k_st (st' := [.inl x813]) rfl ?_
      have z818 := q817 l809
      refine k_istore_n (ls' := [(2, .inl x813), (1, .inl x26), (0, .inr (.inr (some p0)))]) rfl ?_
      refine k_aload_n rfl ?_
      have X819 : ExC [0, 1, 2, 60, 61, 62, 63, 64, 65, 66, 67, 68, 69, 70, 72, 73, 74, 75, 76, 180, 182, 183, 184, 185, 186, 242, 243, 244, 246, 270, 271, 272, 273, 275, 276, 277, 278, 279, 280, 330, 331, 332, 333, 334, 999] σ0 σ779 := ExC.rf.tr (e782.mo (by decide))
      refine k_inv (P := P_X7_code) (Q := Q_X7_code) rfl rfl rfl rfl (Nat.le_of_ble_eq_true rfl) (t790.rc (by decide)) ⟨_, rfl, H781, t790, (rd_cd.st H0 h_0_0 X819 R798.1 (by decide))⟩ (fun w820 σ821 q822 => ?_)
      obtain ⟨x823, rfl, rfl, q824, q825, q826⟩ := q822
      refine k_st (st' := [.inl x823]) rfl ?_
      refine k_bipush (m := 80) rfl (fun x827 h828 => ?_)
      refine k_ic_eq (fun h829 => ?_) (fun h829 => ?_)
      · have h830 : x791.toInt = 0 := by omega
        refine hB _ _ _ _ (kgoC (is := KX7_readMethod_64) rfl ?_)
        refine k_iload_n rfl ?_
        refine k_bipush (m := 10) rfl (fun x831 h832 => ?_)
        refine k_ic_lt (fun h833 => ?_) (fun h833 => ?_)
        · refine hB _ _ _ _ (kgoC (is := KX7_readMethod_75) rfl ?_)
          refine k_aload_n rfl ?_
          refine k_get kg243 t790 (congrArg (Sum.inl : Int32 → AvC) c793) ?_
          refine k_if_eq (fun h834 => ?_) (fun h834 => by exfalso; omega)
          refine hB _ _ _ _ (kgoC (is := KX7_readMethod_83) rfl ?_)
          have R835 := R798.nf (-1000) (-1000) (by rw [c793]; omega)
          have B836 : BgC σ779 p0 3 3 := rd_bg.stn H0 h_0_0 X819 R835 (by decide) (by rw [c793]; omega) (by omega)
          obtain ⟨h837, h838⟩ := B836.new H781.1 t790 (u := 3) (by omega) (by omega)
          have z839 := R835.1.1
          refine k_new (c := 6) (g := 0) H781 (by decide) rfl (by omega) (by have hn : nfC 6 = 7 := rfl; omega) (fun a840 σ841 q842 H843 e844 r845 z846 l847 u848 u849 => ?_)
          rw [show nfC 6 = 7 from rfl] at u849
          have u850 : cpC σ841 = cpC σ779 := congrArg Prod.fst e844.2.1.1
          have u851 : spC σ841 = spC σ779 := congrArg Prod.snd e844.2.1.1
          refine k_dupR ?_
          refine k_aload_n rfl ?_
          have t852 := t790.x e844
          have c853 := (t790.mi e844 (by decide)).trans c787
          refine k_get kg242 t852 (congrArg (Sum.inl : Int32 → AvC) c853) ?_
          refine k_aload_n rfl ?_
          obtain ⟨a856, e854, c855, t857⟩ := cg241 H843.1 t852
          refine k_get kg241 t852 e854 ?_
          obtain ⟨a860, e858, c859, t861, l862⟩ := cg304 H843.1 t857
          refine k_get kg304 t857 e858 ?_
          refine k_aload_n rfl ?_
          refine k_get kg242 t852 (congrArg (Sum.inl : Int32 → AvC) c853) ?_
          refine k_laload t861 (by omega) (by omega) (fun y863 => ?_)
          refine k_iload_n rfl ?_
          refine k_aload_n rfl ?_
          have c864 := (t790.mr e844 (by decide)).trans c802
          refine k_get kg240 t852 (congrArg (fun z : Option Nat => (Sum.inr (Sum.inr z) : AvC)) c864) ?_
          have t865 := t804.x e844
          obtain ⟨a868, e866, c867, t869, l870⟩ := cg212 H843.1 t865
          refine k_get kg212 t865 e866 ?_
          refine k_inv (P := P_Jx4a65c_size_8abf5) (Q := Q_Jx4a65c_size_8abf5) rfl rfl rfl rfl (Nat.le_of_ble_eq_true rfl) (t869.rc (by decide)) ⟨_, rfl, H843, t869⟩ (fun w871 σ872 q873 => ?_)
          obtain ⟨x874, rfl, rfl, h875, h876, q877, q878⟩ := q873
          refine k_st (st' := [.inl x874, .inl x26, .inr (.inl y863), .inl x785, .inr (.inr (some a840)), .inr (.inr (some a840))]) rfl ?_
          refine k_spec (P := P_X5_init) (Q := Q_X5_init) rfl rfl rfl rfl (Nat.le_of_ble_eq_true rfl) ⟨_, _, _, _, _, rfl, H843, r845, z846, (by omega), (by omega), (by omega), (by omega)⟩ (fun w879 σ880 q881 => ?_)
          obtain ⟨rfl, H882, e883, t884, l885, u886, u887, g888, q890⟩ := q881
          have l889 := l885.trans l847
          have c891 := (t852.mit r845 (by decide) e883 (by decide)).trans c853
          have c892 := (t790.mi e844 (by decide)).trans c793
          have c893 := (t852.mit r845 (by decide) e883 (by decide)).trans c892
          have z894 := congrArg Int32.toInt c891
          have z895 := congrArg Int32.toInt c893
          refine k_st (st' := [.inr (.inr (some a840))]) rfl ?_
          refine k_astore_n (ls' := [(3, .inr (.inr (some a840))), (2, .inl x813), (1, .inl x26), (0, .inr (.inr (some p0)))]) rfl ?_
          refine k_aload_n rfl ?_
          have t896 := t852.xt r845 (by decide) e883
          have c897 := (t852.mrt r845 (by decide) e883 (by decide)).trans c864
          refine k_get kg240 t896 (congrArg (fun z : Option Nat => (Sum.inr (Sum.inr z) : AvC)) c897) ?_
          have t898 := t865.xt r845 (by decide) e883
          have c899 := (t804.mr e844 (by decide)).trans c806
          have c900 := (t865.mrt r845 (by decide) e883 (by decide)).trans c899
          refine k_get kg211 t898 (congrArg (fun z : Option Nat => (Sum.inr (Sum.inr z) : AvC)) c900) ?_
          refine k_aload_n rfl ?_
          have t901 := t808.x e844
          have t902 := t901.xt r845 (by decide) e883
          have l903 := (t808.gh e844).trans l809
          have l904 := (t901.ght r845 (by decide) e883).trans l903
          have R905 : RdC p0 none (-7) (-7) (-999) σ0 σ841 := R835.tr ⟨(e844.gwn H781.1 u848 u849 (by decide) (by rw [← q842]; exact r845.n0)), (e844.cou (u := 1) H781.1 t790 (by decide) (by omega))⟩ (by omega) (by omega) (by omega) (by omega)
          have R906 : RdC p0 none (-5) (-5) (-997) σ0 σ880 := R905.tr ⟨g888, (e883.co (u := 2) H843.1 t852 r845 (by decide) (by omega))⟩ (by omega) (by omega) (by omega) (by omega)
          have R907 := R906.nf (-1000) (-1000) (by rw [c893]; omega)
          have X908 : ExC [0, 1, 2, 60, 61, 62, 63, 64, 65, 66, 67, 68, 69, 70, 72, 73, 74, 75, 76, 180, 182, 183, 184, 185, 186, 242, 243, 244, 246, 270, 271, 272, 273, 275, 276, 277, 278, 279, 280, 330, 331, 332, 333, 334, 999] σ779 σ841 := ExC.rf.tr (e844.mo (by decide))
          have X909 : ExC [0, 1, 2, 60, 61, 62, 63, 64, 65, 66, 67, 68, 69, 70, 72, 73, 74, 75, 76, 180, 182, 183, 184, 185, 186, 242, 243, 244, 246, 270, 271, 272, 273, 275, 276, 277, 278, 279, 280, 330, 331, 332, 333, 334, 999] σ779 σ880 := (X908 : ExC [0, 1, 2, 60, 61, 62, 63, 64, 65, 66, 67, 68, 69, 70, 72, 73, 74, 75, 76, 180, 182, 183, 184, 185, 186, 242, 243, 244, 246, 270, 271, 272, 273, 275, 276, 277, 278, 279, 280, 330, 331, 332, 333, 334, 999] σ779 σ841).nt (Nat.le_of_eq q842.symm) (e883.mo (by decide))
          have X910 : ExC [0, 1, 2, 60, 61, 62, 63, 64, 65, 66, 67, 68, 69, 70, 72, 73, 74, 75, 76, 180, 182, 183, 184, 185, 186, 242, 243, 244, 246, 270, 271, 272, 273, 275, 276, 277, 278, 279, 280, 330, 331, 332, 333, 334, 999] σ0 σ880 := X819.tr X909
          have B911 : BgC σ880 p0 1 1 := rd_bg.stn H0 h_0_0 X910 R907 (by decide) (by rw [c893]; omega) (by omega)
          obtain ⟨h912, h913⟩ := B911.new H882.1 t896 (u := 1) (by omega) (by omega)
          have c914 := (t808.mi e844 (by decide)).trans q816
          have c915 := (t901.mit r845 (by decide) e883 (by decide)).trans c914
          refine k_inv (P := P_Jx4a65c_add_9ea2d) (Q := Q_Jx4a65c_add_9ea2d) rfl rfl rfl rfl (Nat.le_of_ble_eq_true rfl) (t902.rc (by decide)) ⟨_, _, rfl, H882, t902, (by rw [l904]; exact ⟨t884, by decide, fun hz => by rw [q890]; omega⟩), (B911.sz H882.1 t896 (by omega) (by omega) c897 (by decide) c900), h912, (by omega), (fun _ => by rw [c915] <;> omega)⟩ (fun w916 σ917 q918 => ?_)
          obtain ⟨x919, rfl, H920, e921, h923, h924, g922, q925, q926⟩ := q918
          have c927 := (t896.mi e921 (by decide)).trans c891
          have c928 := (t896.mi e921 (by decide)).trans c893
          have z929 := congrArg Int32.toInt c927
          have z930 := congrArg Int32.toInt c928
          refine k_st (st' := [.inl x919]) rfl ?_
          refine k_popI ?_
          refine k_aload_n rfl ?_
          have t931 := t896.x e921
          have c932 := (t852.mrt r845 (by decide) e883 (by decide)).trans c855
          have c933 := (t896.mr e921 (by decide)).trans c932
          refine k_get kg241 t931 (congrArg (fun z : Option Nat => (Sum.inr (Sum.inr z) : AvC)) c933) ?_
          have t934 := t857.xt r845 (by decide) e883
          have t935 := t934.x e921
          obtain ⟨a938, e936, c937, t939, l940, l941⟩ := cg303 H920.1 t935
          refine k_get kg303 t935 e936 ?_
          refine k_aload_n rfl ?_
          refine k_get kg242 t931 (congrArg (Sum.inl : Int32 → AvC) c927) ?_
          refine k_bipush (m := 100) rfl (fun x942 h943 => ?_)
          refine k_iload_n rfl ?_
          refine k_iadd (by omega) (by omega) (fun x944 h945 => ?_)
          refine k_iastore H920 t939 l941 (by omega) (by omega) (fun σ946 H947 e948 => ?_)
          refine k_aload_n rfl ?_
          have t949 := t931.x e948
          have R950 : RdC p0 none (-4) (-4) (-999) σ0 σ917 := R907.tr ⟨g922, (e921.cou2 (u := 1) H882.1 t896 (by decide) (by omega) q926)⟩ (by omega) (by omega) (by omega) (by omega)
          have R951 : RdC p0 none (-4) (-4) (-999) σ0 σ946 := R950.tr ⟨(e948.gw H920.1 (by decide)), (e948.cou (u := 0) H920.1 t931 (by decide) (by rw [e948.cn (by decide)]; omega))⟩ (by omega) (by omega) (by omega) (by omega)
          have c952 := (t931.mi e948 (by decide)).trans c928
          have R953 := R951.nf (-1000) (-1000) (by rw [c952]; omega)
          have X954 : ExC [0, 1, 2, 60, 61, 62, 63, 64, 65, 66, 67, 68, 69, 70, 72, 73, 74, 75, 76, 180, 182, 183, 184, 185, 186, 242, 243, 244, 246, 270, 271, 272, 273, 275, 276, 277, 278, 279, 280, 330, 331, 332, 333, 334, 999] σ0 σ917 := X910.tr (e921.mo (by decide))
          have X955 : ExC [0, 1, 2, 60, 61, 62, 63, 64, 65, 66, 67, 68, 69, 70, 72, 73, 74, 75, 76, 180, 182, 183, 184, 185, 186, 242, 243, 244, 246, 270, 271, 272, 273, 275, 276, 277, 278, 279, 280, 330, 331, 332, 333, 334, 999] σ0 σ946 := X954.tr (e948.mo (by decide))
          have c956 := (t931.mi e948 (by decide)).trans c927
          have z957 := congrArg Int32.toInt c956
          have z958 := congrArg Int32.toInt c952
          refine k_inv (P := P_X7_accept) (Q := Q_X7_accept) rfl rfl rfl rfl (Nat.le_of_ble_eq_true rfl) (t949.rc (by decide)) ⟨_, rfl, H947, t949, (rd_cd.st H0 h_0_0 X955 R953.1 (by decide)), (R953.2.2.2.1 rd_at), (rd_bg.stn H0 h_0_0 X955 R953 (by decide) (by rw [c952]; omega) (by omega)), (by have ct := R953.2.2.1; rw [c952, c956, ct]; omega)⟩ (fun w959 σ960 q961 => ?_)
          obtain ⟨rfl, H962, e963, R964, q965⟩ := q961
          have t971 := t949.x e963
          obtain ⟨x966, e967, c968, h969, h970⟩ := cg242 H962.1 t971
          obtain ⟨x972, e973, c974, h975, h976⟩ := cg243 H962.1 t971
          have z977 := congrArg Int32.toInt c968
          have z978 := congrArg Int32.toInt c974
          refine k_st (st' := []) rfl ?_
          have R979 : RdC p0 none (-12) (-4) (-1000) σ0 σ960 := R953.tr ⟨R964.1, R964.2⟩ (by omega) (by omega) (by omega) (by omega)
          have z980 := R979.2.2.1
          have z981 := R979.2.2.2.1 rd_at
          refine k_aload_n rfl ?_
          refine k_lconst ?_
          refine k_putL kg245 H962 t971 fk245 (fun σ982 H983 e984 c985 => ?_)
          refine k_aload_n rfl ?_
          refine k_aconst_null ?_
          have t986 := t971.x e984
          refine k_putR kp246 H983 t986 fk246 (rfo246 (OtC.n)) (fun σ987 H988 e989 c990 => ?_)
          refine k_aload_n rfl ?_
          refine k_aload_n rfl ?_
          have t991 := t986.x e989
          have t992 := t884.x e921
          have t993 := t992.x e948
          have t994 := t993.x e963
          have t995 := t994.x e984
          have t996 := t995.x e989
          have R997 : RdC p0 none (-12) (-4) (-1000) σ0 σ982 := R979.tr ⟨(e984.gw H962.1 (by decide)), (e984.cou (u := 0) H962.1 t971 (by decide) (by rw [e984.cn (by decide)]; omega))⟩ (by omega) (by omega) (by omega) (by omega)
          have R998 : RdC p0 none (-12) (-4) (-1000) σ0 σ987 := R997.tr ⟨(e989.gw H983.1 (by decide)), (e989.cou (u := 0) H983.1 t986 (by decide) (by rw [e989.cn (by decide)]; omega))⟩ (by omega) (by omega) (by omega) (by omega)
          have c999 := (t971.mi e984 (by decide)).trans c974
          have c1000 := (t986.mi e989 (by decide)).trans c999
          have X1001 : ExC [0, 1, 2, 60, 61, 62, 63, 64, 65, 66, 67, 68, 69, 70, 72, 73, 74, 75, 76, 180, 182, 183, 184, 185, 186, 242, 243, 244, 246, 270, 271, 272, 273, 275, 276, 277, 278, 279, 280, 330, 331, 332, 333, 334, 999] σ0 σ960 := X955.tr (e963.mo (by decide))
          have X1002 : ExC [0, 1, 2, 60, 61, 62, 63, 64, 65, 66, 67, 68, 69, 70, 72, 73, 74, 75, 76, 180, 182, 183, 184, 185, 186, 242, 243, 244, 246, 270, 271, 272, 273, 275, 276, 277, 278, 279, 280, 330, 331, 332, 333, 334, 999] σ0 σ982 := X1001.tr (e984.mo (by decide))
          have X1003 : ExC [0, 1, 2, 60, 61, 62, 63, 64, 65, 66, 67, 68, 69, 70, 72, 73, 74, 75, 76, 180, 182, 183, 184, 185, 186, 242, 243, 244, 246, 270, 271, 272, 273, 275, 276, 277, 278, 279, 280, 330, 331, 332, 333, 334, 999] σ0 σ987 := X1002.tr (e989.mo (by decide))
          have c1004 := (t971.mi e984 (by decide)).trans c968
          have c1005 := (t986.mi e989 (by decide)).trans c1004
          have z1006 := congrArg Int32.toInt c1005
          have z1007 := congrArg Int32.toInt c1000
          refine k_inv (P := P_X7_readParams) (Q := Q_X7_readParams) rfl rfl rfl rfl (Nat.le_of_ble_eq_true rfl) (t991.rc (by decide)) ⟨_, _, rfl, H988, t991, t996, (rd_cd.st H0 h_0_0 X1003 R998.1 (by decide)), (R998.2.2.2.1 rd_at), (rd_bg.st H0 h_0_0 X1003 R998 (by decide) (by omega) (by omega) (by omega))⟩ (fun w1008 σ1009 q1010 => ?_)
          obtain ⟨rfl, H1011, e1012, R1013⟩ := q1010
          have t1019 := t991.x e1012
          obtain ⟨x1014, e1015, c1016, h1017, h1018⟩ := cg242 H1011.1 t1019
          obtain ⟨x1020, e1021, c1022, h1023, h1024⟩ := cg243 H1011.1 t1019
          have z1025 := congrArg Int32.toInt c1016
          have z1026 := congrArg Int32.toInt c1022
          refine k_st (st' := []) rfl ?_
          have R1027 : RdC p0 none (-12) (-2) (-1000) σ0 σ1009 := R998.tr ⟨R1013.1, R1013.2⟩ (by omega) (by omega) (by omega) (by omega)
          have z1028 := R1027.2.2.1
          have z1029 := R1027.2.2.2.1 rd_at
          refine k_aload_n rfl ?_
          refine k_aload_n rfl ?_
          refine k_iconst (m := 0) rfl (fun x1030 h1031 => ?_)
          have X1032 : ExC [0, 1, 2, 60, 61, 62, 63, 64, 65, 66, 67, 68, 69, 70, 72, 73, 74, 75, 76, 180, 182, 183, 184, 185, 186, 242, 243, 244, 246, 270, 271, 272, 273, 275, 276, 277, 278, 279, 280, 330, 331, 332, 333, 334, 999] σ0 σ1009 := X1003.tr (e1012.mo (by decide))
          refine k_inv (P := (P_X7_readBody 21)) (Q := (Q_X7_readBody 21)) rfl rfl rfl rfl (Nat.le_of_ble_eq_true rfl) (t1019.rc (by decide)) ⟨_, _, rfl, H1011, t1019, (by omega), (by omega), (rd_cd.st H0 h_0_0 X1032 R1027.1 (by decide)), (R1027.2.2.2.1 rd_at), (rd_bg.st H0 h_0_0 X1032 R1027 (by decide) (by omega) (by omega) (by omega)), (by omega)⟩ (fun w1033 σ1034 q1035 => ?_)
          obtain ⟨a1036, rfl, H1037, e1038, h1040, R1039, q1041, q1042, q1043⟩ := q1035
          have t1049 := t1019.x e1038
          obtain ⟨x1044, e1045, c1046, h1047, h1048⟩ := cg242 H1037.1 t1049
          obtain ⟨x1050, e1051, c1052, h1053, h1054⟩ := cg243 H1037.1 t1049
          have z1055 := congrArg Int32.toInt c1046
          have z1056 := congrArg Int32.toInt c1052
          refine k_st (st' := [.inr (.inr (some a1036)), .inr (.inr (some a840))]) rfl ?_
          have z1057 := R1027.1.1
          obtain ⟨x1058, e1059, c1060, h1061, h1062⟩ := cg272 H1037.1 h1040
          rw [c1060] at q1042
          obtain ⟨x1063, e1064, c1065, h1066, h1067⟩ := cg270 H1037.1 h1040
          rw [c1065] at q1043
          have R1068 : RdC p0 none (-18) (174) (-998) σ0 σ1034 := R1027.tr ⟨R1039.1, R1039.2⟩ (by omega) (by omega) (by omega) (by omega)
          have z1069 := R1068.2.2.1
          have z1070 := R1068.2.2.2.1 rd_at
          have t1076 := t996.x e1012
          have t1077 := t1076.x e1038
          refine k_p186 H1037 t1077 h1040 (by rw [c1065]; omega) (fun σ1071 H1072 e1073 g1074 c1075 => ?_)
          refine k_return ?_
          have X1078 : ExC [0, 1, 2, 60, 61, 62, 63, 64, 65, 66, 67, 68, 69, 70, 72, 73, 74, 75, 76, 180, 182, 183, 184, 185, 186, 242, 243, 244, 246, 270, 271, 272, 273, 275, 276, 277, 278, 279, 280, 330, 331, 332, 333, 334, 999] σ0 σ1034 := X1032.tr (e1038.mo (by decide))
          have X1079 : ExC [0, 1, 2, 60, 61, 62, 63, 64, 65, 66, 67, 68, 69, 70, 72, 73, 74, 75, 76, 180, 182, 183, 184, 185, 186, 242, 243, 244, 246, 270, 271, 272, 273, 275, 276, 277, 278, 279, 280, 330, 331, 332, 333, 334, 999] σ0 σ1071 := X1078.tr (e1073.mo (by decide))
          have R1080 : RdC p0 none (-18) (174) (-998) σ0 σ1071 := R1068.tr ⟨g1074, (e1073.cou (u := 0) H1037.1 t1049 (by decide) (by rw [e1073.cn (by decide)]; omega))⟩ (by omega) (by omega) (by omega) (by omega)
          have c1081 := (t1049.mi e1073 (by decide)).trans c1052
          have c1082 := (t1049.mi e1073 (by decide)).trans c1046
          exact ⟨rfl, H1072, X1079, (R1080.mo (by omega) (by omega) (by omega))⟩
        · refine k_nil ?_
          refine hB _ _ _ _ (kgoC (is := KX7_readMethod_70) rfl ?_)
          refine k_aload_n rfl ?_
          refine k_iconst (m := 3) rfl (fun x1083 h1084 => ?_)
          have R1085 := R798.nf (-1000) (-1000) (by rw [c793]; omega)
          refine k_inv (P := P_X7_raise) (Q := Q_X7_raise) rfl rfl rfl rfl (Nat.le_of_ble_eq_true rfl) (t790.rc (by decide)) ⟨_, _, rfl, H781, t790, (by omega), (by omega), (rd_cd.st H0 h_0_0 X819 R1085.1 (by decide)), (R1085.2.2.2.1 rd_at), (rd_bg.stn H0 h_0_0 X819 R1085 (by decide) (by rw [c793]; omega) (by omega))⟩ (fun w1086 σ1087 q1088 => ?_)
          obtain ⟨rfl, H1089, e1090, R1091, q1092⟩ := q1088
          have c1093 := (t790.mi e1090 (by decide)).trans c787
          have t1099 := t790.x e1090
          obtain ⟨x1094, e1095, c1096, h1097, h1098⟩ := cg243 H1089.1 t1099
          have z1100 := congrArg Int32.toInt c1093
          have z1101 := congrArg Int32.toInt c1096
          refine k_st (st' := []) rfl ?_
          have h1102 : 1 ≤ x1094.toInt := by have hq := q1092; rw [c1096] at hq; omega
          refine k_nil ?_
          refine hB _ _ _ _ (kgoC (is := KX7_readMethod_75) rfl ?_)
          refine k_aload_n rfl ?_
          refine k_get kg243 t1099 (congrArg (Sum.inl : Int32 → AvC) c1096) ?_
          refine k_if_eq (fun h1103 => by exfalso; omega) (fun h1103 => ?_)
          refine k_nil ?_
          refine hB _ _ _ _ (kgoC (is := KX7_readMethod_82) rfl ?_)
          refine k_return ?_
          have X1104 : ExC [0, 1, 2, 60, 61, 62, 63, 64, 65, 66, 67, 68, 69, 70, 72, 73, 74, 75, 76, 180, 182, 183, 184, 185, 186, 242, 243, 244, 246, 270, 271, 272, 273, 275, 276, 277, 278, 279, 280, 330, 331, 332, 333, 334, 999] σ0 σ1087 := X819.tr (e1090.mo (by decide))
          have R1105 : RdC p0 none (-8) (-8) (-1000) σ0 σ1087 := R1085.tr ⟨R1091.1, R1091.2⟩ (by omega) (by omega) (by omega) (by omega)
          exact ⟨rfl, H1089, X1104, ((R1105.ft (0) (by rw [c1096]; omega)).mo (by omega) (by omega) (by omega))⟩
      · refine k_nil ?_
        refine hB _ _ _ _ (kgoC (is := KX7_readMethod_56) rfl ?_)
        refine k_aload_n rfl ?_
        refine k_iconst (m := 2) rfl (fun x1106 h1107 => ?_)
        refine k_inv (P := P_X7_raise) (Q := Q_X7_raise) rfl rfl rfl rfl (Nat.le_of_ble_eq_true rfl) (t790.rc (by decide)) ⟨_, _, rfl, H781, t790, (by omega), (by omega), (rd_cd.st H0 h_0_0 X819 R798.1 (by decide)), (R798.2.2.2.1 rd_at), (rd_bg.st H0 h_0_0 X819 R798 (by decide) (by omega) (by omega) (by omega))⟩ (fun w1108 σ1109 q1110 => ?_)
        obtain ⟨rfl, H1111, e1112, R1113, q1114⟩ := q1110
        have c1115 := (t790.mi e1112 (by decide)).trans c787
        have t1121 := t790.x e1112
        obtain ⟨x1116, e1117, c1118, h1119, h1120⟩ := cg243 H1111.1 t1121
        have z1122 := congrArg Int32.toInt c1115
        have z1123 := congrArg Int32.toInt c1118
        refine k_st (st' := []) rfl ?_
        have h1124 : 1 ≤ x1116.toInt := by have hq := q1114; rw [c1118] at hq; omega
        refine k_goto ?_
        refine hB _ _ _ _ (kgoC (is := KX7_readMethod_75) rfl ?_)
        refine k_aload_n rfl ?_
        refine k_get kg243 t1121 (congrArg (Sum.inl : Int32 → AvC) c1118) ?_
        refine k_if_eq (fun h1125 => by exfalso; omega) (fun h1125 => ?_)
        refine k_nil ?_
        refine hB _ _ _ _ (kgoC (is := KX7_readMethod_82) rfl ?_)
        refine k_return ?_
        have X1126 : ExC [0, 1, 2, 60, 61, 62, 63, 64, 65, 66, 67, 68, 69, 70, 72, 73, 74, 75, 76, 180, 182, 183, 184, 185, 186, 242, 243, 244, 246, 270, 271, 272, 273, 275, 276, 277, 278, 279, 280, 330, 331, 332, 333, 334, 999] σ0 σ1109 := X819.tr (e1112.mo (by decide))
        have R1127 : RdC p0 none (-8) (0) (-1000) σ0 σ1109 := R798.tr ⟨R1113.1, R1113.2⟩ (by omega) (by omega) (by omega) (by omega)
        exact ⟨rfl, H1111, X1126, ((R1127.ft (0) (by rw [c1118]; omega)).mo (by omega) (by omega) (by omega))⟩
abbrev P_X7_readProgram : CpC := fun As σ => ∃ (p0 : Nat) (p1 : Nat) (p2 : Nat) (p3 : Int32), As = [.inr (.inr (some p0)), .inr (.inr (some p1)), .inr (.inr (some p2)), .inl p3] ∧ HIC σ ∧ TyC σ p0 8 ∧ TyC σ p1 7 ∧ TyC σ p2 101 ∧ alC σ p2 = 2500 ∧ 0 ≤ p3.toInt ∧ p3.toInt ≤ 2500 ∧ cnC σ + 4208 ≤ cpC σ ∧ slC σ + 4 * gsC σ (cnC σ) + 22 * 4208 + 20000 ≤ spC σ
abbrev Q_X7_readProgram : CqC := fun As σ w τ => match As with
  | [.inr (.inr (some p0)), .inr (.inr (some p1)), .inr (.inr (some p2)), .inl p3] => ∃ r : Int32, w = some (.inl r) ∧ HIC τ ∧ ExC [0, 1, 2, 60, 61, 62, 63, 64, 65, 66, 67, 68, 69, 70, 72, 73, 74, 75, 76, 180, 182, 183, 184, 185, 186, 217, 218, 240, 241, 242, 243, 244, 246, 270, 271, 272, 273, 275, 276, 277, 278, 279, 280, 305, 307, 308, 330, 331, 332, 333, 334, 998, 999] σ τ ∧ 0 ≤ r.toInt ∧ r.toInt ≤ 3 ∧ ((cnC τ : Int) ≤ cnC σ + 8 * p3.toInt + 200) ∧ (slC τ + 4 * gsC τ (cnC τ) ≤ slC σ + 4 * gsC σ (cnC σ) + 22 * (cnC τ - cnC σ))
  | _ => False
set_option maxRecDepth 100000 in
set_option maxHeartbeats 4000000 in
theorem m_X7_readProgram (l : Launch) : CMetC l 313 123 P_X7_readProgram Q_X7_readProgram := by
  refine CMetC.of KX7_readProgram [(117, P_X6_clear, Q_X6_clear), (188, P_X9_cutText, Q_X9_cutText), (125, P_X7_code, Q_X7_code), (134, P_X7_readMethod, Q_X7_readMethod)] hX7_readProgram (by decide) (by decide) okX7_readProgram (cc1C (m_X6_clear l) (by decide) (cc1C (m_X9_cutText l) (by decide) (cc1C (m_X7_code l) (by decide) (cc1C (m_X7_readMethod l) (by decide) cc0C)))) ?_ ?_
  · rintro As σ ⟨p0, p1, p2, p3, rfl, -⟩
    exact Nat.le_of_ble_eq_true rfl
  · rintro As σ0 ⟨p0, p1, p2, p3, rfl, H0, h_0_0, h_1_0, h_2_0, h_2_1, h_3_0, h_3_1, q_0, q_1⟩ hgr G hB hW
    change G 0 [(0, .inr (.inr (some p0))), (1, .inr (.inr (some p1))), (2, .inr (.inr (some p2))), (3, .inl p3)] [] σ0
    refine hB _ _ _ _ (kgoC (is := KX7_readProgram_0) rfl ?_)
    refine k_aload_n rfl ?_
    refine k_aload_n rfl ?_
    refine k_putR kp240 H0 h_0_0 fk240 (rf240 h_1_0) (fun σ1 H2 e3 c4 => ?_)
    refine k_aload_n rfl ?_
    refine k_aload_n rfl ?_
    have t5 := h_1_0.x e3
    obtain ⟨a8, e6, c7, t9⟩ := cg210 H2.1 t5
    refine k_get kg210 t5 e6 ?_
    have t10 := h_0_0.x e3
    refine k_putR kp241 H2 t10 fk241 (rf241 t9) (fun σ11 H12 e13 c14 => ?_)
    refine k_aload_n rfl ?_
    have t15 := t10.x e13
    have c16 := (t10.mr e13 (by decide)).trans c4
    refine k_get kg240 t15 (congrArg (fun z : Option Nat => (Sum.inr (Sum.inr z) : AvC)) c16) ?_
    have t17 := t5.x e13
    refine k_inv (P := P_X6_clear) (Q := Q_X6_clear) rfl rfl rfl rfl (Nat.le_of_ble_eq_true rfl) (t17.rc (by decide)) ⟨_, rfl, H12, t17⟩ (fun w18 σ19 q20 => ?_)
    obtain ⟨rfl, H21, e22, q23⟩ := q20
    refine k_st (st' := []) rfl ?_
    refine k_aload_n rfl ?_
    have t24 := t15.x e22
    have c25 := (t15.mr e22 (by decide)).trans c14
    refine k_get kg241 t24 (congrArg (fun z : Option Nat => (Sum.inr (Sum.inr z) : AvC)) c25) ?_
    refine k_aload_n rfl ?_
    refine k_iload_n rfl ?_
    have t26 := t9.x e13
    have t27 := t26.x e22
    have t28 := h_2_0.x e3
    have t29 := t28.x e13
    have t30 := t29.x e22
    have l31 := (h_2_0.al e3).trans h_2_1
    have l32 := (t28.al e13).trans l31
    have l33 := (t29.al e22).trans l32
    refine k_inv (P := P_X9_cutText) (Q := Q_X9_cutText) rfl rfl rfl rfl (Nat.le_of_ble_eq_true rfl) (t27.rc (by decide)) ⟨_, _, _, rfl, H21, t27, t30, l33, (by omega), (by omega)⟩ (fun w34 σ35 q36 => ?_)
    obtain ⟨rfl, H37, e38, q39, q40⟩ := q36
    refine k_st (st' := []) rfl ?_
    refine k_aload_n rfl ?_
    refine k_iconst (m := 0) rfl (fun x41 h42 => ?_)
    have t43 := t24.x e38
    refine k_putI kp242 H37 t43 (Or.inl fk242) (by show 0 ≤ _; omega) (by show _ ≤ 500; omega) (fun σ44 H45 e46 c47 => ?_)
    refine k_aload_n rfl ?_
    refine k_iconst (m := 0) rfl (fun x48 h49 => ?_)
    have t50 := t43.x e46
    refine k_putI kp243 H45 t50 (Or.inl fk243) (by show 0 ≤ _; omega) (by show _ ≤ 3; omega) (fun σ51 H52 e53 c54 => ?_)
    have c56 := (t24.mr e38 (by decide)).trans c25
    have D55 : CdC σ35 p0 := fun z hz c hq => by cases c56.symm.trans hz; exact q39 c hq
    have D57 := D55.st H37 t43 e46 (e46.gw (x := none) H37.1 (by decide)) (by decide)
    have D58 := D57.st H45 t50 e53 (e53.gw (x := none) H45.1 (by decide)) (by decide)
    have c59 := (t50.mi e53 (by decide)).trans c47
    have c60 := (t43.mr e46 (by decide)).trans c56
    have c61 := (t50.mr e53 (by decide)).trans c60
    have t67 := t27.x e38
    have t68 := t67.x e46
    have t69 := t68.x e53
    obtain ⟨x62, e63, c64, h65, h66⟩ := cg305 H52.1 t69
    have z70 : CtC σ51 p0 = x62.toInt := by unfold CtC; rw [c61]; dsimp only; rw [c64]
    have z71 := congrArg Int32.toInt (t67.mi e46 (k := 305) (by decide))
    have z72 := congrArg Int32.toInt (t68.mi e53 (k := 305) (by decide))
    have z73 := congrArg Int32.toInt c64
    have A74 : (fIC σ51 p0 242).toInt ≤ CtC σ51 p0 := by rw [c59, z70]; omega
    obtain ⟨u75, u76⟩ := e3.sg H0.1 (by decide)
    have u77 : cpC σ1 = cpC σ0 := congrArg Prod.fst e3.2.1.1
    have u78 : spC σ1 = spC σ0 := congrArg Prod.snd e3.2.1.1
    obtain ⟨u79, u80⟩ := e13.sg H2.1 (by decide)
    have u81 : cpC σ11 = cpC σ1 := congrArg Prod.fst e13.2.1.1
    have u82 : spC σ11 = spC σ1 := congrArg Prod.snd e13.2.1.1
    obtain ⟨u83, u84⟩ := e22.sg H12.1 (by decide)
    have u85 : cpC σ19 = cpC σ11 := congrArg Prod.fst e22.2.1.1
    have u86 : spC σ19 = spC σ11 := congrArg Prod.snd e22.2.1.1
    obtain ⟨u87, u88⟩ := e38.sg H21.1 (by decide)
    have u89 : cpC σ35 = cpC σ19 := congrArg Prod.fst e38.2.1.1
    have u90 : spC σ35 = spC σ19 := congrArg Prod.snd e38.2.1.1
    obtain ⟨u91, u92⟩ := e46.sg H37.1 (by decide)
    have u93 : cpC σ44 = cpC σ35 := congrArg Prod.fst e46.2.1.1
    have u94 : spC σ44 = spC σ35 := congrArg Prod.snd e46.2.1.1
    obtain ⟨u95, u96⟩ := e53.sg H45.1 (by decide)
    have u97 : cpC σ51 = cpC σ44 := congrArg Prod.fst e53.2.1.1
    have u98 : spC σ51 = spC σ44 := congrArg Prod.snd e53.2.1.1
    have c100 := (t15.mr e22 (by decide)).trans c16
    have c101 := (t24.mr e38 (by decide)).trans c100
    have c102 := (t43.mr e46 (by decide)).trans c101
    have c103 := (t50.mr e53 (by decide)).trans c102
    have B99 : BgC σ51 p0 200 0 := by
      refine ⟨fun _ => ⟨by rw [c59]; omega, by rw [c59]; omega, fun q hq k hk a ha => ?_⟩, fun hz => absurd (by rw [c54] <;> omega) hz⟩
      have hk' := hk
      obtain rfl : p1 = q := Option.some.inj (c103.symm.trans hq)
      have hf : finC k = true := by simp only [List.elem_eq_mem, List.mem_cons, List.not_mem_nil, or_false, decide_eq_true_eq] at hk'; rcases hk' with rfl | rfl | rfl | rfl <;> decide
      have t104 := t17.x e22
      have t105 := t104.x e38
      have t106 := t105.x e46
      rw [t106.fr e53 (by decide) hf] at ha
      rw [t105.fr e46 (by decide) hf] at ha
      rw [t104.fr e38 (by decide) hf] at ha
      have hs := q23 k hk a ha
      have ta : TyC σ19 a 0 := lstC H21.1 t104 hk ha
      have e4_ := congrArg Int32.toInt (ta.mi e38 (k := 2) (by decide))
      have ta4_ := ta.x e38
      have e5_ := congrArg Int32.toInt (ta4_.mi e46 (k := 2) (by decide))
      have ta5_ := ta4_.x e46
      have e6_ := congrArg Int32.toInt (ta5_.mi e53 (k := 2) (by decide))
      have ta6_ := ta5_.x e53
      rw [c59]
      omega
    have z107 := congrArg Int32.toInt c59
    have z108 := congrArg Int32.toInt c54
    have R109 := (RdC.rf : RdC p0 none 0 0 0 σ51 σ51).nf (-1000) (-1000) (by rw [c54]; omega)
    have z110 := R109.2.2.1
    have z111 := R109.2.2.2.1 A74
    refine k_iconst (m := 0) rfl (fun x112 h113 => ?_)
    refine k_istore (ls' := [(4, .inl x112), (0, .inr (.inr (some p0))), (1, .inr (.inr (some p1))), (2, .inr (.inr (some p2))), (3, .inl p3)]) rfl ?_
    refine k_nil ?_
    have L42 : ∀ (n42 : Nat), ∀ (σ114 : CsC) (v42_4 : Int32), (2147483647 - v42_4.toInt).toNat = n42 → HIC σ114 → ExC [0, 1, 2, 60, 61, 62, 63, 64, 65, 66, 67, 68, 69, 70, 72, 73, 74, 75, 76, 180, 182, 183, 184, 185, 186, 242, 243, 244, 246, 270, 271, 272, 273, 275, 276, 277, 278, 279, 280, 330, 331, 332, 333, 334, 999] σ51 σ114 → RdC p0 none (0) (200) (-1000) σ51 σ114 → 0 ≤ v42_4.toInt → v42_4.toInt ≤ 11 → G 42 [(0, .inr (.inr (some p0))), (4, .inl v42_4)] [] σ114 := by
      intro n42
      induction n42 using Nat.strongRecOn with
      | _ n42 ih42 =>
        intro σ114 v42_4 n42_ H115 e116 R117 h118 h119
        have t125 := t50.x e53
        have t126 := t125.x e116
        obtain ⟨x120, e121, c122, h123, h124⟩ := cg242 H115.1 t126
        obtain ⟨x127, e128, c129, h130, h131⟩ := cg243 H115.1 t126
        have z132 := congrArg Int32.toInt c122
        have z133 := congrArg Int32.toInt c129
        refine hB _ _ _ _ (kgoC (is := KX7_readProgram_42) rfl ?_)
        refine k_iload rfl ?_
        refine k_bipush (m := 10) rfl (fun x134 h135 => ?_)
        refine k_ic_gt (fun h136 => ?_) (fun h136 => ?_)
        · refine hB _ _ _ _ (kgoC (is := KX7_readProgram_75) rfl ?_)
          refine k_aload_n rfl ?_
          refine k_get kg243 t126 (congrArg (Sum.inl : Int32 → AvC) c129) ?_
          refine k_ireturn (fun hz => absurd hz (by decide)) ?_
          have X137 : ExC [0, 1, 2, 60, 61, 62, 63, 64, 65, 66, 67, 68, 69, 70, 72, 73, 74, 75, 76, 180, 182, 183, 184, 185, 186, 217, 218, 240, 241, 242, 243, 244, 246, 270, 271, 272, 273, 275, 276, 277, 278, 279, 280, 305, 307, 308, 330, 331, 332, 333, 334, 998, 999] σ0 σ1 := ExC.rf.tr (e3.mo (by decide))
          have X138 : ExC [0, 1, 2, 60, 61, 62, 63, 64, 65, 66, 67, 68, 69, 70, 72, 73, 74, 75, 76, 180, 182, 183, 184, 185, 186, 217, 218, 240, 241, 242, 243, 244, 246, 270, 271, 272, 273, 275, 276, 277, 278, 279, 280, 305, 307, 308, 330, 331, 332, 333, 334, 998, 999] σ0 σ11 := X137.tr (e13.mo (by decide))
          have X139 : ExC [0, 1, 2, 60, 61, 62, 63, 64, 65, 66, 67, 68, 69, 70, 72, 73, 74, 75, 76, 180, 182, 183, 184, 185, 186, 217, 218, 240, 241, 242, 243, 244, 246, 270, 271, 272, 273, 275, 276, 277, 278, 279, 280, 305, 307, 308, 330, 331, 332, 333, 334, 998, 999] σ0 σ19 := X138.tr (e22.mo (by decide))
          have X140 : ExC [0, 1, 2, 60, 61, 62, 63, 64, 65, 66, 67, 68, 69, 70, 72, 73, 74, 75, 76, 180, 182, 183, 184, 185, 186, 217, 218, 240, 241, 242, 243, 244, 246, 270, 271, 272, 273, 275, 276, 277, 278, 279, 280, 305, 307, 308, 330, 331, 332, 333, 334, 998, 999] σ0 σ35 := X139.tr (e38.mo (by decide))
          have X141 : ExC [0, 1, 2, 60, 61, 62, 63, 64, 65, 66, 67, 68, 69, 70, 72, 73, 74, 75, 76, 180, 182, 183, 184, 185, 186, 217, 218, 240, 241, 242, 243, 244, 246, 270, 271, 272, 273, 275, 276, 277, 278, 279, 280, 305, 307, 308, 330, 331, 332, 333, 334, 998, 999] σ0 σ44 := X140.tr (e46.mo (by decide))
          have X142 : ExC [0, 1, 2, 60, 61, 62, 63, 64, 65, 66, 67, 68, 69, 70, 72, 73, 74, 75, 76, 180, 182, 183, 184, 185, 186, 217, 218, 240, 241, 242, 243, 244, 246, 270, 271, 272, 273, 275, 276, 277, 278, 279, 280, 305, 307, 308, 330, 331, 332, 333, 334, 998, 999] σ0 σ51 := X141.tr (e53.mo (by decide))
          have X143 : ExC [0, 1, 2, 60, 61, 62, 63, 64, 65, 66, 67, 68, 69, 70, 72, 73, 74, 75, 76, 180, 182, 183, 184, 185, 186, 217, 218, 240, 241, 242, 243, 244, 246, 270, 271, 272, 273, 275, 276, 277, 278, 279, 280, 305, 307, 308, 330, 331, 332, 333, 334, 998, 999] σ0 σ114 := X142.tr (e116.mo (by decide))
          have z144 := R117.2.2.1
          have z145 := R117.2.2.2.1 A74
          exact ⟨_, rfl, H115, X143, (by omega), (by omega), (by have z1 := R117.2.2.2.2.2.1.2.1; have z2 := R117.2.2.2.2.2.1.2.2; have z3 := R117.2.2.1; omega), (by have z1 := R117.1.2.1; have z2 := R117.1.1; omega)⟩
        · refine k_nil ?_
          refine hB _ _ _ _ (kgoC (is := KX7_readProgram_49) rfl ?_)
          refine k_aload_n rfl ?_
          refine k_get kg243 t126 (congrArg (Sum.inl : Int32 → AvC) c129) ?_
          refine k_if_ne (fun h146 => ?_) (fun h146 => ?_)
          · refine hB _ _ _ _ (kgoC (is := KX7_readProgram_75) rfl ?_)
            refine k_aload_n rfl ?_
            refine k_get kg243 t126 (congrArg (Sum.inl : Int32 → AvC) c129) ?_
            refine k_ireturn (fun hz => absurd hz (by decide)) ?_
            have X147 : ExC [0, 1, 2, 60, 61, 62, 63, 64, 65, 66, 67, 68, 69, 70, 72, 73, 74, 75, 76, 180, 182, 183, 184, 185, 186, 217, 218, 240, 241, 242, 243, 244, 246, 270, 271, 272, 273, 275, 276, 277, 278, 279, 280, 305, 307, 308, 330, 331, 332, 333, 334, 998, 999] σ0 σ1 := ExC.rf.tr (e3.mo (by decide))
            have X148 : ExC [0, 1, 2, 60, 61, 62, 63, 64, 65, 66, 67, 68, 69, 70, 72, 73, 74, 75, 76, 180, 182, 183, 184, 185, 186, 217, 218, 240, 241, 242, 243, 244, 246, 270, 271, 272, 273, 275, 276, 277, 278, 279, 280, 305, 307, 308, 330, 331, 332, 333, 334, 998, 999] σ0 σ11 := X147.tr (e13.mo (by decide))
            have X149 : ExC [0, 1, 2, 60, 61, 62, 63, 64, 65, 66, 67, 68, 69, 70, 72, 73, 74, 75, 76, 180, 182, 183, 184, 185, 186, 217, 218, 240, 241, 242, 243, 244, 246, 270, 271, 272, 273, 275, 276, 277, 278, 279, 280, 305, 307, 308, 330, 331, 332, 333, 334, 998, 999] σ0 σ19 := X148.tr (e22.mo (by decide))
            have X150 : ExC [0, 1, 2, 60, 61, 62, 63, 64, 65, 66, 67, 68, 69, 70, 72, 73, 74, 75, 76, 180, 182, 183, 184, 185, 186, 217, 218, 240, 241, 242, 243, 244, 246, 270, 271, 272, 273, 275, 276, 277, 278, 279, 280, 305, 307, 308, 330, 331, 332, 333, 334, 998, 999] σ0 σ35 := X149.tr (e38.mo (by decide))
            have X151 : ExC [0, 1, 2, 60, 61, 62, 63, 64, 65, 66, 67, 68, 69, 70, 72, 73, 74, 75, 76, 180, 182, 183, 184, 185, 186, 217, 218, 240, 241, 242, 243, 244, 246, 270, 271, 272, 273, 275, 276, 277, 278, 279, 280, 305, 307, 308, 330, 331, 332, 333, 334, 998, 999] σ0 σ44 := X150.tr (e46.mo (by decide))
            have X152 : ExC [0, 1, 2, 60, 61, 62, 63, 64, 65, 66, 67, 68, 69, 70, 72, 73, 74, 75, 76, 180, 182, 183, 184, 185, 186, 217, 218, 240, 241, 242, 243, 244, 246, 270, 271, 272, 273, 275, 276, 277, 278, 279, 280, 305, 307, 308, 330, 331, 332, 333, 334, 998, 999] σ0 σ51 := X151.tr (e53.mo (by decide))
            have X153 : ExC [0, 1, 2, 60, 61, 62, 63, 64, 65, 66, 67, 68, 69, 70, 72, 73, 74, 75, 76, 180, 182, 183, 184, 185, 186, 217, 218, 240, 241, 242, 243, 244, 246, 270, 271, 272, 273, 275, 276, 277, 278, 279, 280, 305, 307, 308, 330, 331, 332, 333, 334, 998, 999] σ0 σ114 := X152.tr (e116.mo (by decide))
            have z154 := R117.2.2.1
            have z155 := R117.2.2.2.1 A74
            exact ⟨_, rfl, H115, X153, (by omega), (by omega), (by have z1 := R117.2.2.2.2.2.1.2.1; have z2 := R117.2.2.2.2.2.1.2.2; have z3 := R117.2.2.1; omega), (by have z1 := R117.1.2.1; have z2 := R117.1.1; omega)⟩
          · refine k_nil ?_
            refine hB _ _ _ _ (kgoC (is := KX7_readProgram_56) rfl ?_)
            refine k_aload_n rfl ?_
            have R156 := R117.nf (-1000) (-1000) (by rw [c129]; omega)
            have X157 : ExC [0, 1, 2, 60, 61, 62, 63, 64, 65, 66, 67, 68, 69, 70, 72, 73, 74, 75, 76, 180, 182, 183, 184, 185, 186, 242, 243, 244, 246, 270, 271, 272, 273, 275, 276, 277, 278, 279, 280, 330, 331, 332, 333, 334, 999] σ51 σ114 := ExC.rf.tr (e116.mo (by decide))
            refine k_inv (P := P_X7_code) (Q := Q_X7_code) rfl rfl rfl rfl (Nat.le_of_ble_eq_true rfl) (t126.rc (by decide)) ⟨_, rfl, H115, t126, (D58.st H52 t125 X157 R156.1 (by decide))⟩ (fun w158 σ159 q160 => ?_)
            obtain ⟨x161, rfl, rfl, q162, q163, q164⟩ := q160
            refine k_st (st' := [.inl x161]) rfl ?_
            have z165 := R156.2.2.1
            have z166 := R156.2.2.2.1 A74
            refine k_bipush (m := 84) rfl (fun x167 h168 => ?_)
            refine k_ic_eq (fun h169 => ?_) (fun h169 => ?_)
            · refine hB _ _ _ _ (kgoC (is := KX7_readProgram_75) rfl ?_)
              refine k_aload_n rfl ?_
              refine k_get kg243 t126 (congrArg (Sum.inl : Int32 → AvC) c129) ?_
              refine k_ireturn (fun hz => absurd hz (by decide)) ?_
              have X170 : ExC [0, 1, 2, 60, 61, 62, 63, 64, 65, 66, 67, 68, 69, 70, 72, 73, 74, 75, 76, 180, 182, 183, 184, 185, 186, 217, 218, 240, 241, 242, 243, 244, 246, 270, 271, 272, 273, 275, 276, 277, 278, 279, 280, 305, 307, 308, 330, 331, 332, 333, 334, 998, 999] σ0 σ1 := ExC.rf.tr (e3.mo (by decide))
              have X171 : ExC [0, 1, 2, 60, 61, 62, 63, 64, 65, 66, 67, 68, 69, 70, 72, 73, 74, 75, 76, 180, 182, 183, 184, 185, 186, 217, 218, 240, 241, 242, 243, 244, 246, 270, 271, 272, 273, 275, 276, 277, 278, 279, 280, 305, 307, 308, 330, 331, 332, 333, 334, 998, 999] σ0 σ11 := X170.tr (e13.mo (by decide))
              have X172 : ExC [0, 1, 2, 60, 61, 62, 63, 64, 65, 66, 67, 68, 69, 70, 72, 73, 74, 75, 76, 180, 182, 183, 184, 185, 186, 217, 218, 240, 241, 242, 243, 244, 246, 270, 271, 272, 273, 275, 276, 277, 278, 279, 280, 305, 307, 308, 330, 331, 332, 333, 334, 998, 999] σ0 σ19 := X171.tr (e22.mo (by decide))
              have X173 : ExC [0, 1, 2, 60, 61, 62, 63, 64, 65, 66, 67, 68, 69, 70, 72, 73, 74, 75, 76, 180, 182, 183, 184, 185, 186, 217, 218, 240, 241, 242, 243, 244, 246, 270, 271, 272, 273, 275, 276, 277, 278, 279, 280, 305, 307, 308, 330, 331, 332, 333, 334, 998, 999] σ0 σ35 := X172.tr (e38.mo (by decide))
              have X174 : ExC [0, 1, 2, 60, 61, 62, 63, 64, 65, 66, 67, 68, 69, 70, 72, 73, 74, 75, 76, 180, 182, 183, 184, 185, 186, 217, 218, 240, 241, 242, 243, 244, 246, 270, 271, 272, 273, 275, 276, 277, 278, 279, 280, 305, 307, 308, 330, 331, 332, 333, 334, 998, 999] σ0 σ44 := X173.tr (e46.mo (by decide))
              have X175 : ExC [0, 1, 2, 60, 61, 62, 63, 64, 65, 66, 67, 68, 69, 70, 72, 73, 74, 75, 76, 180, 182, 183, 184, 185, 186, 217, 218, 240, 241, 242, 243, 244, 246, 270, 271, 272, 273, 275, 276, 277, 278, 279, 280, 305, 307, 308, 330, 331, 332, 333, 334, 998, 999] σ0 σ51 := X174.tr (e53.mo (by decide))
              have X176 : ExC [0, 1, 2, 60, 61, 62, 63, 64, 65, 66, 67, 68, 69, 70, 72, 73, 74, 75, 76, 180, 182, 183, 184, 185, 186, 217, 218, 240, 241, 242, 243, 244, 246, 270, 271, 272, 273, 275, 276, 277, 278, 279, 280, 305, 307, 308, 330, 331, 332, 333, 334, 998, 999] σ0 σ114 := X175.tr (e116.mo (by decide))
              exact ⟨_, rfl, H115, X176, (by omega), (by omega), (by have z1 := R156.2.2.2.2.2.1.2.1; have z2 := R156.2.2.2.2.2.1.2.2; have z3 := R156.2.2.1; omega), (by have z1 := R156.1.2.1; have z2 := R156.1.1; omega)⟩
            · refine k_nil ?_
              refine hB _ _ _ _ (kgoC (is := KX7_readProgram_65) rfl ?_)
              refine k_aload_n rfl ?_
              refine k_inv (P := P_X7_readMethod) (Q := Q_X7_readMethod) rfl rfl rfl rfl (Nat.le_of_ble_eq_true rfl) (t126.rc (by decide)) ⟨_, rfl, H115, t126, (D58.st H52 t125 X157 R156.1 (by decide)), (R156.2.2.2.1 A74), ((show BgC σ114 p0 (200) 0 from (B99.stn H52 t125 X157 R156 (by decide) (by rw [c129]; omega) (by omega))).1 (by rw [c129]; omega)), (by rw [c129]; omega)⟩ (fun w177 σ178 q179 => ?_)
              obtain ⟨rfl, H180, e181, R182⟩ := q179
              have t188 := t126.x e181
              obtain ⟨x183, e184, c185, h186, h187⟩ := cg242 H180.1 t188
              obtain ⟨x189, e190, c191, h192, h193⟩ := cg243 H180.1 t188
              have z194 := congrArg Int32.toInt c185
              have z195 := congrArg Int32.toInt c191
              refine k_st (st' := []) rfl ?_
              have R196 : RdC p0 none (0) (200) (-1000) σ51 σ178 := R156.tr ⟨R182.1, R182.2⟩ (by omega) (by omega) (by omega) (by omega)
              have z197 := R196.2.2.1
              have z198 := R196.2.2.2.1 A74
              obtain ⟨x199, e201, h200⟩ := iincC (n := 1) (m := 1) (v := v42_4) rfl (by omega) (by omega)
              refine k_iinc (ls' := [(4, .inl x199), (0, .inr (.inr (some p0)))]) rfl e201 rfl ?_
              refine k_goto ?_
              have X202 : ExC [0, 1, 2, 60, 61, 62, 63, 64, 65, 66, 67, 68, 69, 70, 72, 73, 74, 75, 76, 180, 182, 183, 184, 185, 186, 242, 243, 244, 246, 270, 271, 272, 273, 275, 276, 277, 278, 279, 280, 330, 331, 332, 333, 334, 999] σ51 σ178 := X157.tr (e181.mo (by decide))
              exact hW _ _ _ _ _ (List.forall_mem_cons.2 ⟨List.Mem.tail _ (List.Mem.head _), (List.forall_mem_cons.2 ⟨List.Mem.head _, fun _ h => absurd h List.not_mem_nil⟩)⟩) (ih42 ((2147483647 - x199.toInt).toNat) (by omega) σ178 x199 rfl H180 X202 (R196.mo (by omega) (by omega) (by omega)) (by omega) (by omega))
    exact hW _ _ _ _ _ (List.forall_mem_cons.2 ⟨List.Mem.tail _ (List.Mem.head _), (List.forall_mem_cons.2 ⟨List.Mem.head _, fun _ h => absurd h List.not_mem_nil⟩)⟩) (L42 _ σ51 x112 rfl H52 ExC.rf (R109.mo (by omega) (by omega) (by omega)) (by omega) (by omega))
