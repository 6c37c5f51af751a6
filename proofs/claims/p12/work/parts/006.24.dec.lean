/-! decode, by the bytes that it reads -/
def rdN (code : ByteArray) (p : Nat) : Option Nat := if h : p < code.size then some code[p].toNat else none
theorem rd_bind {α β : Type} {x : Decoder α} {f : α → Decoder β} {code : ByteArray} {p p' : Nat} {a : α} (h : x code p = .ok (a, p')) : (x >>= f) code p = f a code p' := by
  show Except.bind (x code p) (fun q => f q.1 code q.2) = _
  rw [h]
  rfl
theorem u1_run {code : ByteArray} {p b : Nat} (h : rdN code p = some b) : (Reader.u1 : Decoder Nat) code p = .ok (b, p + 1) := by
  unfold rdN at h
  split at h
  next hp =>
    have h := Option.some.inj h
    show (dite (p < code.size) _ _ : Decoder Nat) code p = _
    rw [dif_pos hp]
    show Except.ok (code[p].toNat, p + 1) = _
    rw [h]
  next => cases h
theorem u2_run {code : ByteArray} {p a b : Nat} (h1 : rdN code p = some a) (h2 : rdN code (p + 1) = some b) : (Reader.u2 : Decoder Nat) code p = .ok (a * 256 + b, p + 2) := by
  unfold Reader.u2
  rw [rd_bind (u1_run h1), rd_bind (u1_run h2)]
  rfl
theorem s1_run {code : ByteArray} {p a : Nat} (h1 : rdN code p = some a) : (Reader.s1 : Decoder Int) code p = .ok (Reader.signed 8 a, p + 1) := by
  show Except.map (fun q : Nat × Nat => (Reader.signed 8 q.1, q.2)) ((Reader.u1 : Decoder Nat) code p) = _
  rw [u1_run h1]
  rfl
theorem s2_run {code : ByteArray} {p a b : Nat} (h1 : rdN code p = some a) (h2 : rdN code (p + 1) = some b) : (Reader.s2 : Decoder Int) code p = .ok (Reader.signed 16 (a * 256 + b), p + 2) := by
  show Except.map (fun q : Nat × Nat => (Reader.signed 16 q.1, q.2)) ((Reader.u2 : Decoder Nat) code p) = _
  rw [u2_run h1 h2]
  rfl
theorem dec_of {code : ByteArray} {pc nx : Nat} {i : Instr} (h : Decoder.instr pc code pc = .ok (i, nx)) : decode code pc = .ok (i, nx - pc) := by
  show Except.bind (Decoder.instr pc code pc) (fun q => .ok (q.1, q.2 - pc)) = _
  rw [h]
  rfl

set_option maxRecDepth 100000 in
theorem dc_2 {code : ByteArray} {pc : Nat} (h : rdN code pc = some 2) : decode code pc = .ok (.iconst (-1), 1) := by
  refine (dec_of (nx := pc + 1) ?_).trans (by rw [Nat.add_sub_cancel_left])
  unfold Decoder.instr
  refine (rd_bind (u1_run h)).trans ?_
  rfl
set_option maxRecDepth 100000 in
theorem dc_3 {code : ByteArray} {pc : Nat} (h : rdN code pc = some 3) : decode code pc = .ok (.iconst 0, 1) := by
  refine (dec_of (nx := pc + 1) ?_).trans (by rw [Nat.add_sub_cancel_left])
  unfold Decoder.instr
  refine (rd_bind (u1_run h)).trans ?_
  rfl
set_option maxRecDepth 100000 in
theorem dc_4 {code : ByteArray} {pc : Nat} (h : rdN code pc = some 4) : decode code pc = .ok (.iconst 1, 1) := by
  refine (dec_of (nx := pc + 1) ?_).trans (by rw [Nat.add_sub_cancel_left])
  unfold Decoder.instr
  refine (rd_bind (u1_run h)).trans ?_
  rfl
set_option maxRecDepth 100000 in
theorem dc_5 {code : ByteArray} {pc : Nat} (h : rdN code pc = some 5) : decode code pc = .ok (.iconst 2, 1) := by
  refine (dec_of (nx := pc + 1) ?_).trans (by rw [Nat.add_sub_cancel_left])
  unfold Decoder.instr
  refine (rd_bind (u1_run h)).trans ?_
  rfl
set_option maxRecDepth 100000 in
theorem dc_6 {code : ByteArray} {pc : Nat} (h : rdN code pc = some 6) : decode code pc = .ok (.iconst 3, 1) := by
  refine (dec_of (nx := pc + 1) ?_).trans (by rw [Nat.add_sub_cancel_left])
  unfold Decoder.instr
  refine (rd_bind (u1_run h)).trans ?_
  rfl
set_option maxRecDepth 100000 in
theorem dc_7 {code : ByteArray} {pc : Nat} (h : rdN code pc = some 7) : decode code pc = .ok (.iconst 4, 1) := by
  refine (dec_of (nx := pc + 1) ?_).trans (by rw [Nat.add_sub_cancel_left])
  unfold Decoder.instr
  refine (rd_bind (u1_run h)).trans ?_
  rfl
set_option maxRecDepth 100000 in
theorem dc_8 {code : ByteArray} {pc : Nat} (h : rdN code pc = some 8) : decode code pc = .ok (.iconst 5, 1) := by
  refine (dec_of (nx := pc + 1) ?_).trans (by rw [Nat.add_sub_cancel_left])
  unfold Decoder.instr
  refine (rd_bind (u1_run h)).trans ?_
  rfl
set_option maxRecDepth 100000 in
theorem dc_9 {code : ByteArray} {pc : Nat} (h : rdN code pc = some 9) : decode code pc = .ok (.lconst 0, 1) := by
  refine (dec_of (nx := pc + 1) ?_).trans (by rw [Nat.add_sub_cancel_left])
  unfold Decoder.instr
  refine (rd_bind (u1_run h)).trans ?_
  rfl
set_option maxRecDepth 100000 in
theorem dc_10 {code : ByteArray} {pc : Nat} (h : rdN code pc = some 10) : decode code pc = .ok (.lconst 1, 1) := by
  refine (dec_of (nx := pc + 1) ?_).trans (by rw [Nat.add_sub_cancel_left])
  unfold Decoder.instr
  refine (rd_bind (u1_run h)).trans ?_
  rfl
set_option maxRecDepth 100000 in
theorem dc_26 {code : ByteArray} {pc : Nat} (h : rdN code pc = some 26) : decode code pc = .ok (.iload_n 0, 1) := by
  refine (dec_of (nx := pc + 1) ?_).trans (by rw [Nat.add_sub_cancel_left])
  unfold Decoder.instr
  refine (rd_bind (u1_run h)).trans ?_
  rfl
set_option maxRecDepth 100000 in
theorem dc_27 {code : ByteArray} {pc : Nat} (h : rdN code pc = some 27) : decode code pc = .ok (.iload_n 1, 1) := by
  refine (dec_of (nx := pc + 1) ?_).trans (by rw [Nat.add_sub_cancel_left])
  unfold Decoder.instr
  refine (rd_bind (u1_run h)).trans ?_
  rfl
set_option maxRecDepth 100000 in
theorem dc_28 {code : ByteArray} {pc : Nat} (h : rdN code pc = some 28) : decode code pc = .ok (.iload_n 2, 1) := by
  refine (dec_of (nx := pc + 1) ?_).trans (by rw [Nat.add_sub_cancel_left])
  unfold Decoder.instr
  refine (rd_bind (u1_run h)).trans ?_
  rfl
set_option maxRecDepth 100000 in
theorem dc_29 {code : ByteArray} {pc : Nat} (h : rdN code pc = some 29) : decode code pc = .ok (.iload_n 3, 1) := by
  refine (dec_of (nx := pc + 1) ?_).trans (by rw [Nat.add_sub_cancel_left])
  unfold Decoder.instr
  refine (rd_bind (u1_run h)).trans ?_
  rfl
set_option maxRecDepth 100000 in
theorem dc_30 {code : ByteArray} {pc : Nat} (h : rdN code pc = some 30) : decode code pc = .ok (.lload_n 0, 1) := by
  refine (dec_of (nx := pc + 1) ?_).trans (by rw [Nat.add_sub_cancel_left])
  unfold Decoder.instr
  refine (rd_bind (u1_run h)).trans ?_
  rfl
set_option maxRecDepth 100000 in
theorem dc_31 {code : ByteArray} {pc : Nat} (h : rdN code pc = some 31) : decode code pc = .ok (.lload_n 1, 1) := by
  refine (dec_of (nx := pc + 1) ?_).trans (by rw [Nat.add_sub_cancel_left])
  unfold Decoder.instr
  refine (rd_bind (u1_run h)).trans ?_
  rfl
set_option maxRecDepth 100000 in
theorem dc_32 {code : ByteArray} {pc : Nat} (h : rdN code pc = some 32) : decode code pc = .ok (.lload_n 2, 1) := by
  refine (dec_of (nx := pc + 1) ?_).trans (by rw [Nat.add_sub_cancel_left])
  unfold Decoder.instr
  refine (rd_bind (u1_run h)).trans ?_
  rfl
set_option maxRecDepth 100000 in
theorem dc_33 {code : ByteArray} {pc : Nat} (h : rdN code pc = some 33) : decode code pc = .ok (.lload_n 3, 1) := by
  refine (dec_of (nx := pc + 1) ?_).trans (by rw [Nat.add_sub_cancel_left])
  unfold Decoder.instr
  refine (rd_bind (u1_run h)).trans ?_
  rfl
set_option maxRecDepth 100000 in
theorem dc_42 {code : ByteArray} {pc : Nat} (h : rdN code pc = some 42) : decode code pc = .ok (.aload_n 0, 1) := by
  refine (dec_of (nx := pc + 1) ?_).trans (by rw [Nat.add_sub_cancel_left])
  unfold Decoder.instr
  refine (rd_bind (u1_run h)).trans ?_
  rfl
set_option maxRecDepth 100000 in
theorem dc_43 {code : ByteArray} {pc : Nat} (h : rdN code pc = some 43) : decode code pc = .ok (.aload_n 1, 1) := by
  refine (dec_of (nx := pc + 1) ?_).trans (by rw [Nat.add_sub_cancel_left])
  unfold Decoder.instr
  refine (rd_bind (u1_run h)).trans ?_
  rfl
set_option maxRecDepth 100000 in
theorem dc_44 {code : ByteArray} {pc : Nat} (h : rdN code pc = some 44) : decode code pc = .ok (.aload_n 2, 1) := by
  refine (dec_of (nx := pc + 1) ?_).trans (by rw [Nat.add_sub_cancel_left])
  unfold Decoder.instr
  refine (rd_bind (u1_run h)).trans ?_
  rfl
set_option maxRecDepth 100000 in
theorem dc_45 {code : ByteArray} {pc : Nat} (h : rdN code pc = some 45) : decode code pc = .ok (.aload_n 3, 1) := by
  refine (dec_of (nx := pc + 1) ?_).trans (by rw [Nat.add_sub_cancel_left])
  unfold Decoder.instr
  refine (rd_bind (u1_run h)).trans ?_
  rfl
set_option maxRecDepth 100000 in
theorem dc_59 {code : ByteArray} {pc : Nat} (h : rdN code pc = some 59) : decode code pc = .ok (.istore_n 0, 1) := by
  refine (dec_of (nx := pc + 1) ?_).trans (by rw [Nat.add_sub_cancel_left])
  unfold Decoder.instr
  refine (rd_bind (u1_run h)).trans ?_
  rfl
set_option maxRecDepth 100000 in
theorem dc_60 {code : ByteArray} {pc : Nat} (h : rdN code pc = some 60) : decode code pc = .ok (.istore_n 1, 1) := by
  refine (dec_of (nx := pc + 1) ?_).trans (by rw [Nat.add_sub_cancel_left])
  unfold Decoder.instr
  refine (rd_bind (u1_run h)).trans ?_
  rfl
set_option maxRecDepth 100000 in
theorem dc_61 {code : ByteArray} {pc : Nat} (h : rdN code pc = some 61) : decode code pc = .ok (.istore_n 2, 1) := by
  refine (dec_of (nx := pc + 1) ?_).trans (by rw [Nat.add_sub_cancel_left])
  unfold Decoder.instr
  refine (rd_bind (u1_run h)).trans ?_
  rfl
set_option maxRecDepth 100000 in
theorem dc_62 {code : ByteArray} {pc : Nat} (h : rdN code pc = some 62) : decode code pc = .ok (.istore_n 3, 1) := by
  refine (dec_of (nx := pc + 1) ?_).trans (by rw [Nat.add_sub_cancel_left])
  unfold Decoder.instr
  refine (rd_bind (u1_run h)).trans ?_
  rfl
set_option maxRecDepth 100000 in
theorem dc_63 {code : ByteArray} {pc : Nat} (h : rdN code pc = some 63) : decode code pc = .ok (.lstore_n 0, 1) := by
  refine (dec_of (nx := pc + 1) ?_).trans (by rw [Nat.add_sub_cancel_left])
  unfold Decoder.instr
  refine (rd_bind (u1_run h)).trans ?_
  rfl
set_option maxRecDepth 100000 in
theorem dc_64 {code : ByteArray} {pc : Nat} (h : rdN code pc = some 64) : decode code pc = .ok (.lstore_n 1, 1) := by
  refine (dec_of (nx := pc + 1) ?_).trans (by rw [Nat.add_sub_cancel_left])
  unfold Decoder.instr
  refine (rd_bind (u1_run h)).trans ?_
  rfl
set_option maxRecDepth 100000 in
theorem dc_65 {code : ByteArray} {pc : Nat} (h : rdN code pc = some 65) : decode code pc = .ok (.lstore_n 2, 1) := by
  refine (dec_of (nx := pc + 1) ?_).trans (by rw [Nat.add_sub_cancel_left])
  unfold Decoder.instr
  refine (rd_bind (u1_run h)).trans ?_
  rfl
set_option maxRecDepth 100000 in
theorem dc_66 {code : ByteArray} {pc : Nat} (h : rdN code pc = some 66) : decode code pc = .ok (.lstore_n 3, 1) := by
  refine (dec_of (nx := pc + 1) ?_).trans (by rw [Nat.add_sub_cancel_left])
  unfold Decoder.instr
  refine (rd_bind (u1_run h)).trans ?_
  rfl
set_option maxRecDepth 100000 in
theorem dc_75 {code : ByteArray} {pc : Nat} (h : rdN code pc = some 75) : decode code pc = .ok (.astore_n 0, 1) := by
  refine (dec_of (nx := pc + 1) ?_).trans (by rw [Nat.add_sub_cancel_left])
  unfold Decoder.instr
  refine (rd_bind (u1_run h)).trans ?_
  rfl
set_option maxRecDepth 100000 in
theorem dc_76 {code : ByteArray} {pc : Nat} (h : rdN code pc = some 76) : decode code pc = .ok (.astore_n 1, 1) := by
  refine (dec_of (nx := pc + 1) ?_).trans (by rw [Nat.add_sub_cancel_left])
  unfold Decoder.instr
  refine (rd_bind (u1_run h)).trans ?_
  rfl
set_option maxRecDepth 100000 in
theorem dc_77 {code : ByteArray} {pc : Nat} (h : rdN code pc = some 77) : decode code pc = .ok (.astore_n 2, 1) := by
  refine (dec_of (nx := pc + 1) ?_).trans (by rw [Nat.add_sub_cancel_left])
  unfold Decoder.instr
  refine (rd_bind (u1_run h)).trans ?_
  rfl
set_option maxRecDepth 100000 in
theorem dc_78 {code : ByteArray} {pc : Nat} (h : rdN code pc = some 78) : decode code pc = .ok (.astore_n 3, 1) := by
  refine (dec_of (nx := pc + 1) ?_).trans (by rw [Nat.add_sub_cancel_left])
  unfold Decoder.instr
  refine (rd_bind (u1_run h)).trans ?_
  rfl
set_option maxRecDepth 100000 in
theorem dc_1 {code : ByteArray} {pc : Nat} (h : rdN code pc = some 1) : decode code pc = .ok (.aconst_null, 1) := by
  refine (dec_of (nx := pc + 1) ?_).trans (by rw [Nat.add_sub_cancel_left])
  unfold Decoder.instr
  refine (rd_bind (u1_run h)).trans ?_
  rfl
set_option maxRecDepth 100000 in
theorem dc_46 {code : ByteArray} {pc : Nat} (h : rdN code pc = some 46) : decode code pc = .ok (.iaload, 1) := by
  refine (dec_of (nx := pc + 1) ?_).trans (by rw [Nat.add_sub_cancel_left])
  unfold Decoder.instr
  refine (rd_bind (u1_run h)).trans ?_
  rfl
set_option maxRecDepth 100000 in
theorem dc_47 {code : ByteArray} {pc : Nat} (h : rdN code pc = some 47) : decode code pc = .ok (.laload, 1) := by
  refine (dec_of (nx := pc + 1) ?_).trans (by rw [Nat.add_sub_cancel_left])
  unfold Decoder.instr
  refine (rd_bind (u1_run h)).trans ?_
  rfl
set_option maxRecDepth 100000 in
theorem dc_50 {code : ByteArray} {pc : Nat} (h : rdN code pc = some 50) : decode code pc = .ok (.aaload, 1) := by
  refine (dec_of (nx := pc + 1) ?_).trans (by rw [Nat.add_sub_cancel_left])
  unfold Decoder.instr
  refine (rd_bind (u1_run h)).trans ?_
  rfl
set_option maxRecDepth 100000 in
theorem dc_51 {code : ByteArray} {pc : Nat} (h : rdN code pc = some 51) : decode code pc = .ok (.baload, 1) := by
  refine (dec_of (nx := pc + 1) ?_).trans (by rw [Nat.add_sub_cancel_left])
  unfold Decoder.instr
  refine (rd_bind (u1_run h)).trans ?_
  rfl
set_option maxRecDepth 100000 in
theorem dc_52 {code : ByteArray} {pc : Nat} (h : rdN code pc = some 52) : decode code pc = .ok (.caload, 1) := by
  refine (dec_of (nx := pc + 1) ?_).trans (by rw [Nat.add_sub_cancel_left])
  unfold Decoder.instr
  refine (rd_bind (u1_run h)).trans ?_
  rfl
set_option maxRecDepth 100000 in
theorem dc_79 {code : ByteArray} {pc : Nat} (h : rdN code pc = some 79) : decode code pc = .ok (.iastore, 1) := by
  refine (dec_of (nx := pc + 1) ?_).trans (by rw [Nat.add_sub_cancel_left])
  unfold Decoder.instr
  refine (rd_bind (u1_run h)).trans ?_
  rfl
set_option maxRecDepth 100000 in
theorem dc_80 {code : ByteArray} {pc : Nat} (h : rdN code pc = some 80) : decode code pc = .ok (.lastore, 1) := by
  refine (dec_of (nx := pc + 1) ?_).trans (by rw [Nat.add_sub_cancel_left])
  unfold Decoder.instr
  refine (rd_bind (u1_run h)).trans ?_
  rfl
set_option maxRecDepth 100000 in
theorem dc_83 {code : ByteArray} {pc : Nat} (h : rdN code pc = some 83) : decode code pc = .ok (.aastore, 1) := by
  refine (dec_of (nx := pc + 1) ?_).trans (by rw [Nat.add_sub_cancel_left])
  unfold Decoder.instr
  refine (rd_bind (u1_run h)).trans ?_
  rfl
set_option maxRecDepth 100000 in
theorem dc_84 {code : ByteArray} {pc : Nat} (h : rdN code pc = some 84) : decode code pc = .ok (.bastore, 1) := by
  refine (dec_of (nx := pc + 1) ?_).trans (by rw [Nat.add_sub_cancel_left])
  unfold Decoder.instr
  refine (rd_bind (u1_run h)).trans ?_
  rfl
set_option maxRecDepth 100000 in
theorem dc_85 {code : ByteArray} {pc : Nat} (h : rdN code pc = some 85) : decode code pc = .ok (.castore, 1) := by
  refine (dec_of (nx := pc + 1) ?_).trans (by rw [Nat.add_sub_cancel_left])
  unfold Decoder.instr
  refine (rd_bind (u1_run h)).trans ?_
  rfl
set_option maxRecDepth 100000 in
theorem dc_87 {code : ByteArray} {pc : Nat} (h : rdN code pc = some 87) : decode code pc = .ok (.pop, 1) := by
  refine (dec_of (nx := pc + 1) ?_).trans (by rw [Nat.add_sub_cancel_left])
  unfold Decoder.instr
  refine (rd_bind (u1_run h)).trans ?_
  rfl
set_option maxRecDepth 100000 in
theorem dc_88 {code : ByteArray} {pc : Nat} (h : rdN code pc = some 88) : decode code pc = .ok (.pop2, 1) := by
  refine (dec_of (nx := pc + 1) ?_).trans (by rw [Nat.add_sub_cancel_left])
  unfold Decoder.instr
  refine (rd_bind (u1_run h)).trans ?_
  rfl
set_option maxRecDepth 100000 in
theorem dc_89 {code : ByteArray} {pc : Nat} (h : rdN code pc = some 89) : decode code pc = .ok (.dup, 1) := by
  refine (dec_of (nx := pc + 1) ?_).trans (by rw [Nat.add_sub_cancel_left])
  unfold Decoder.instr
  refine (rd_bind (u1_run h)).trans ?_
  rfl
set_option maxRecDepth 100000 in
theorem dc_90 {code : ByteArray} {pc : Nat} (h : rdN code pc = some 90) : decode code pc = .ok (.dup_x1, 1) := by
  refine (dec_of (nx := pc + 1) ?_).trans (by rw [Nat.add_sub_cancel_left])
  unfold Decoder.instr
  refine (rd_bind (u1_run h)).trans ?_
  rfl
set_option maxRecDepth 100000 in
theorem dc_91 {code : ByteArray} {pc : Nat} (h : rdN code pc = some 91) : decode code pc = .ok (.dup_x2, 1) := by
  refine (dec_of (nx := pc + 1) ?_).trans (by rw [Nat.add_sub_cancel_left])
  unfold Decoder.instr
  refine (rd_bind (u1_run h)).trans ?_
  rfl
set_option maxRecDepth 100000 in
theorem dc_92 {code : ByteArray} {pc : Nat} (h : rdN code pc = some 92) : decode code pc = .ok (.dup2, 1) := by
  refine (dec_of (nx := pc + 1) ?_).trans (by rw [Nat.add_sub_cancel_left])
  unfold Decoder.instr
  refine (rd_bind (u1_run h)).trans ?_
  rfl
set_option maxRecDepth 100000 in
theorem dc_93 {code : ByteArray} {pc : Nat} (h : rdN code pc = some 93) : decode code pc = .ok (.dup2_x1, 1) := by
  refine (dec_of (nx := pc + 1) ?_).trans (by rw [Nat.add_sub_cancel_left])
  unfold Decoder.instr
  refine (rd_bind (u1_run h)).trans ?_
  rfl
set_option maxRecDepth 100000 in
theorem dc_94 {code : ByteArray} {pc : Nat} (h : rdN code pc = some 94) : decode code pc = .ok (.dup2_x2, 1) := by
  refine (dec_of (nx := pc + 1) ?_).trans (by rw [Nat.add_sub_cancel_left])
  unfold Decoder.instr
  refine (rd_bind (u1_run h)).trans ?_
  rfl
set_option maxRecDepth 100000 in
theorem dc_96 {code : ByteArray} {pc : Nat} (h : rdN code pc = some 96) : decode code pc = .ok (.iadd, 1) := by
  refine (dec_of (nx := pc + 1) ?_).trans (by rw [Nat.add_sub_cancel_left])
  unfold Decoder.instr
  refine (rd_bind (u1_run h)).trans ?_
  rfl
set_option maxRecDepth 100000 in
theorem dc_97 {code : ByteArray} {pc : Nat} (h : rdN code pc = some 97) : decode code pc = .ok (.ladd, 1) := by
  refine (dec_of (nx := pc + 1) ?_).trans (by rw [Nat.add_sub_cancel_left])
  unfold Decoder.instr
  refine (rd_bind (u1_run h)).trans ?_
  rfl
set_option maxRecDepth 100000 in
theorem dc_100 {code : ByteArray} {pc : Nat} (h : rdN code pc = some 100) : decode code pc = .ok (.isub, 1) := by
  refine (dec_of (nx := pc + 1) ?_).trans (by rw [Nat.add_sub_cancel_left])
  unfold Decoder.instr
  refine (rd_bind (u1_run h)).trans ?_
  rfl
set_option maxRecDepth 100000 in
theorem dc_101 {code : ByteArray} {pc : Nat} (h : rdN code pc = some 101) : decode code pc = .ok (.lsub, 1) := by
  refine (dec_of (nx := pc + 1) ?_).trans (by rw [Nat.add_sub_cancel_left])
  unfold Decoder.instr
  refine (rd_bind (u1_run h)).trans ?_
  rfl
set_option maxRecDepth 100000 in
theorem dc_104 {code : ByteArray} {pc : Nat} (h : rdN code pc = some 104) : decode code pc = .ok (.imul, 1) := by
  refine (dec_of (nx := pc + 1) ?_).trans (by rw [Nat.add_sub_cancel_left])
  unfold Decoder.instr
  refine (rd_bind (u1_run h)).trans ?_
  rfl
set_option maxRecDepth 100000 in
theorem dc_105 {code : ByteArray} {pc : Nat} (h : rdN code pc = some 105) : decode code pc = .ok (.lmul, 1) := by
  refine (dec_of (nx := pc + 1) ?_).trans (by rw [Nat.add_sub_cancel_left])
  unfold Decoder.instr
  refine (rd_bind (u1_run h)).trans ?_
  rfl
set_option maxRecDepth 100000 in
theorem dc_108 {code : ByteArray} {pc : Nat} (h : rdN code pc = some 108) : decode code pc = .ok (.idiv, 1) := by
  refine (dec_of (nx := pc + 1) ?_).trans (by rw [Nat.add_sub_cancel_left])
  unfold Decoder.instr
  refine (rd_bind (u1_run h)).trans ?_
  rfl
set_option maxRecDepth 100000 in
theorem dc_109 {code : ByteArray} {pc : Nat} (h : rdN code pc = some 109) : decode code pc = .ok (.ldiv, 1) := by
  refine (dec_of (nx := pc + 1) ?_).trans (by rw [Nat.add_sub_cancel_left])
  unfold Decoder.instr
  refine (rd_bind (u1_run h)).trans ?_
  rfl
set_option maxRecDepth 100000 in
theorem dc_112 {code : ByteArray} {pc : Nat} (h : rdN code pc = some 112) : decode code pc = .ok (.irem, 1) := by
  refine (dec_of (nx := pc + 1) ?_).trans (by rw [Nat.add_sub_cancel_left])
  unfold Decoder.instr
  refine (rd_bind (u1_run h)).trans ?_
  rfl
set_option maxRecDepth 100000 in
theorem dc_113 {code : ByteArray} {pc : Nat} (h : rdN code pc = some 113) : decode code pc = .ok (.lrem, 1) := by
  refine (dec_of (nx := pc + 1) ?_).trans (by rw [Nat.add_sub_cancel_left])
  unfold Decoder.instr
  refine (rd_bind (u1_run h)).trans ?_
  rfl
set_option maxRecDepth 100000 in
theorem dc_116 {code : ByteArray} {pc : Nat} (h : rdN code pc = some 116) : decode code pc = .ok (.ineg, 1) := by
  refine (dec_of (nx := pc + 1) ?_).trans (by rw [Nat.add_sub_cancel_left])
  unfold Decoder.instr
  refine (rd_bind (u1_run h)).trans ?_
  rfl
set_option maxRecDepth 100000 in
theorem dc_117 {code : ByteArray} {pc : Nat} (h : rdN code pc = some 117) : decode code pc = .ok (.lneg, 1) := by
  refine (dec_of (nx := pc + 1) ?_).trans (by rw [Nat.add_sub_cancel_left])
  unfold Decoder.instr
  refine (rd_bind (u1_run h)).trans ?_
  rfl
set_option maxRecDepth 100000 in
theorem dc_120 {code : ByteArray} {pc : Nat} (h : rdN code pc = some 120) : decode code pc = .ok (.ishl, 1) := by
  refine (dec_of (nx := pc + 1) ?_).trans (by rw [Nat.add_sub_cancel_left])
  unfold Decoder.instr
  refine (rd_bind (u1_run h)).trans ?_
  rfl
set_option maxRecDepth 100000 in
theorem dc_121 {code : ByteArray} {pc : Nat} (h : rdN code pc = some 121) : decode code pc = .ok (.lshl, 1) := by
  refine (dec_of (nx := pc + 1) ?_).trans (by rw [Nat.add_sub_cancel_left])
  unfold Decoder.instr
  refine (rd_bind (u1_run h)).trans ?_
  rfl
set_option maxRecDepth 100000 in
theorem dc_122 {code : ByteArray} {pc : Nat} (h : rdN code pc = some 122) : decode code pc = .ok (.ishr, 1) := by
  refine (dec_of (nx := pc + 1) ?_).trans (by rw [Nat.add_sub_cancel_left])
  unfold Decoder.instr
  refine (rd_bind (u1_run h)).trans ?_
  rfl
set_option maxRecDepth 100000 in
theorem dc_123 {code : ByteArray} {pc : Nat} (h : rdN code pc = some 123) : decode code pc = .ok (.lshr, 1) := by
  refine (dec_of (nx := pc + 1) ?_).trans (by rw [Nat.add_sub_cancel_left])
  unfold Decoder.instr
  refine (rd_bind (u1_run h)).trans ?_
  rfl
set_option maxRecDepth 100000 in
theorem dc_124 {code : ByteArray} {pc : Nat} (h : rdN code pc = some 124) : decode code pc = .ok (.iushr, 1) := by
  refine (dec_of (nx := pc + 1) ?_).trans (by rw [Nat.add_sub_cancel_left])
  unfold Decoder.instr
  refine (rd_bind (u1_run h)).trans ?_
  rfl
set_option maxRecDepth 100000 in
theorem dc_125 {code : ByteArray} {pc : Nat} (h : rdN code pc = some 125) : decode code pc = .ok (.lushr, 1) := by
  refine (dec_of (nx := pc + 1) ?_).trans (by rw [Nat.add_sub_cancel_left])
  unfold Decoder.instr
  refine (rd_bind (u1_run h)).trans ?_
  rfl
set_option maxRecDepth 100000 in
theorem dc_126 {code : ByteArray} {pc : Nat} (h : rdN code pc = some 126) : decode code pc = .ok (.iand, 1) := by
  refine (dec_of (nx := pc + 1) ?_).trans (by rw [Nat.add_sub_cancel_left])
  unfold Decoder.instr
  refine (rd_bind (u1_run h)).trans ?_
  rfl
set_option maxRecDepth 100000 in
theorem dc_127 {code : ByteArray} {pc : Nat} (h : rdN code pc = some 127) : decode code pc = .ok (.land, 1) := by
  refine (dec_of (nx := pc + 1) ?_).trans (by rw [Nat.add_sub_cancel_left])
  unfold Decoder.instr
  refine (rd_bind (u1_run h)).trans ?_
  rfl
set_option maxRecDepth 100000 in
theorem dc_128 {code : ByteArray} {pc : Nat} (h : rdN code pc = some 128) : decode code pc = .ok (.ior, 1) := by
  refine (dec_of (nx := pc + 1) ?_).trans (by rw [Nat.add_sub_cancel_left])
  unfold Decoder.instr
  refine (rd_bind (u1_run h)).trans ?_
  rfl
set_option maxRecDepth 100000 in
theorem dc_129 {code : ByteArray} {pc : Nat} (h : rdN code pc = some 129) : decode code pc = .ok (.lor, 1) := by
  refine (dec_of (nx := pc + 1) ?_).trans (by rw [Nat.add_sub_cancel_left])
  unfold Decoder.instr
  refine (rd_bind (u1_run h)).trans ?_
  rfl
set_option maxRecDepth 100000 in
theorem dc_130 {code : ByteArray} {pc : Nat} (h : rdN code pc = some 130) : decode code pc = .ok (.ixor, 1) := by
  refine (dec_of (nx := pc + 1) ?_).trans (by rw [Nat.add_sub_cancel_left])
  unfold Decoder.instr
  refine (rd_bind (u1_run h)).trans ?_
  rfl
set_option maxRecDepth 100000 in
theorem dc_131 {code : ByteArray} {pc : Nat} (h : rdN code pc = some 131) : decode code pc = .ok (.lxor, 1) := by
  refine (dec_of (nx := pc + 1) ?_).trans (by rw [Nat.add_sub_cancel_left])
  unfold Decoder.instr
  refine (rd_bind (u1_run h)).trans ?_
  rfl
set_option maxRecDepth 100000 in
theorem dc_133 {code : ByteArray} {pc : Nat} (h : rdN code pc = some 133) : decode code pc = .ok (.i2l, 1) := by
  refine (dec_of (nx := pc + 1) ?_).trans (by rw [Nat.add_sub_cancel_left])
  unfold Decoder.instr
  refine (rd_bind (u1_run h)).trans ?_
  rfl
set_option maxRecDepth 100000 in
theorem dc_136 {code : ByteArray} {pc : Nat} (h : rdN code pc = some 136) : decode code pc = .ok (.l2i, 1) := by
  refine (dec_of (nx := pc + 1) ?_).trans (by rw [Nat.add_sub_cancel_left])
  unfold Decoder.instr
  refine (rd_bind (u1_run h)).trans ?_
  rfl
set_option maxRecDepth 100000 in
theorem dc_145 {code : ByteArray} {pc : Nat} (h : rdN code pc = some 145) : decode code pc = .ok (.i2b, 1) := by
  refine (dec_of (nx := pc + 1) ?_).trans (by rw [Nat.add_sub_cancel_left])
  unfold Decoder.instr
  refine (rd_bind (u1_run h)).trans ?_
  rfl
set_option maxRecDepth 100000 in
theorem dc_146 {code : ByteArray} {pc : Nat} (h : rdN code pc = some 146) : decode code pc = .ok (.i2c, 1) := by
  refine (dec_of (nx := pc + 1) ?_).trans (by rw [Nat.add_sub_cancel_left])
  unfold Decoder.instr
  refine (rd_bind (u1_run h)).trans ?_
  rfl
set_option maxRecDepth 100000 in
theorem dc_148 {code : ByteArray} {pc : Nat} (h : rdN code pc = some 148) : decode code pc = .ok (.lcmp, 1) := by
  refine (dec_of (nx := pc + 1) ?_).trans (by rw [Nat.add_sub_cancel_left])
  unfold Decoder.instr
  refine (rd_bind (u1_run h)).trans ?_
  rfl
set_option maxRecDepth 100000 in
theorem dc_172 {code : ByteArray} {pc : Nat} (h : rdN code pc = some 172) : decode code pc = .ok (.ireturn, 1) := by
  refine (dec_of (nx := pc + 1) ?_).trans (by rw [Nat.add_sub_cancel_left])
  unfold Decoder.instr
  refine (rd_bind (u1_run h)).trans ?_
  rfl
set_option maxRecDepth 100000 in
theorem dc_173 {code : ByteArray} {pc : Nat} (h : rdN code pc = some 173) : decode code pc = .ok (.lreturn, 1) := by
  refine (dec_of (nx := pc + 1) ?_).trans (by rw [Nat.add_sub_cancel_left])
  unfold Decoder.instr
  refine (rd_bind (u1_run h)).trans ?_
  rfl
set_option maxRecDepth 100000 in
theorem dc_176 {code : ByteArray} {pc : Nat} (h : rdN code pc = some 176) : decode code pc = .ok (.areturn, 1) := by
  refine (dec_of (nx := pc + 1) ?_).trans (by rw [Nat.add_sub_cancel_left])
  unfold Decoder.instr
  refine (rd_bind (u1_run h)).trans ?_
  rfl
set_option maxRecDepth 100000 in
theorem dc_177 {code : ByteArray} {pc : Nat} (h : rdN code pc = some 177) : decode code pc = .ok (.return_, 1) := by
  refine (dec_of (nx := pc + 1) ?_).trans (by rw [Nat.add_sub_cancel_left])
  unfold Decoder.instr
  refine (rd_bind (u1_run h)).trans ?_
  rfl
set_option maxRecDepth 100000 in
theorem dc_190 {code : ByteArray} {pc : Nat} (h : rdN code pc = some 190) : decode code pc = .ok (.arraylength, 1) := by
  refine (dec_of (nx := pc + 1) ?_).trans (by rw [Nat.add_sub_cancel_left])
  unfold Decoder.instr
  refine (rd_bind (u1_run h)).trans ?_
  rfl
set_option maxRecDepth 100000 in
theorem dc_18 {code : ByteArray} {pc a : Nat} (h : rdN code pc = some 18) (h1 : rdN code (pc + 1) = some a) : decode code pc = .ok (.ldc a, 2) := by
  refine (dec_of (nx := pc + 2) ?_).trans (by rw [Nat.add_sub_cancel_left])
  unfold Decoder.instr
  refine (rd_bind (u1_run h)).trans ?_
  exact rd_bind (f := fun z => Pure.pure (Instr.ldc z)) (u1_run h1)
set_option maxRecDepth 100000 in
theorem dc_21 {code : ByteArray} {pc a : Nat} (h : rdN code pc = some 21) (h1 : rdN code (pc + 1) = some a) : decode code pc = .ok (.iload a, 2) := by
  refine (dec_of (nx := pc + 2) ?_).trans (by rw [Nat.add_sub_cancel_left])
  unfold Decoder.instr
  refine (rd_bind (u1_run h)).trans ?_
  exact rd_bind (f := fun z => Pure.pure (Instr.iload z)) (u1_run h1)
set_option maxRecDepth 100000 in
theorem dc_22 {code : ByteArray} {pc a : Nat} (h : rdN code pc = some 22) (h1 : rdN code (pc + 1) = some a) : decode code pc = .ok (.lload a, 2) := by
  refine (dec_of (nx := pc + 2) ?_).trans (by rw [Nat.add_sub_cancel_left])
  unfold Decoder.instr
  refine (rd_bind (u1_run h)).trans ?_
  exact rd_bind (f := fun z => Pure.pure (Instr.lload z)) (u1_run h1)
set_option maxRecDepth 100000 in
theorem dc_25 {code : ByteArray} {pc a : Nat} (h : rdN code pc = some 25) (h1 : rdN code (pc + 1) = some a) : decode code pc = .ok (.aload a, 2) := by
  refine (dec_of (nx := pc + 2) ?_).trans (by rw [Nat.add_sub_cancel_left])
  unfold Decoder.instr
  refine (rd_bind (u1_run h)).trans ?_
  exact rd_bind (f := fun z => Pure.pure (Instr.aload z)) (u1_run h1)
set_option maxRecDepth 100000 in
theorem dc_54 {code : ByteArray} {pc a : Nat} (h : rdN code pc = some 54) (h1 : rdN code (pc + 1) = some a) : decode code pc = .ok (.istore a, 2) := by
  refine (dec_of (nx := pc + 2) ?_).trans (by rw [Nat.add_sub_cancel_left])
  unfold Decoder.instr
  refine (rd_bind (u1_run h)).trans ?_
  exact rd_bind (f := fun z => Pure.pure (Instr.istore z)) (u1_run h1)
set_option maxRecDepth 100000 in
theorem dc_55 {code : ByteArray} {pc a : Nat} (h : rdN code pc = some 55) (h1 : rdN code (pc + 1) = some a) : decode code pc = .ok (.lstore a, 2) := by
  refine (dec_of (nx := pc + 2) ?_).trans (by rw [Nat.add_sub_cancel_left])
  unfold Decoder.instr
  refine (rd_bind (u1_run h)).trans ?_
  exact rd_bind (f := fun z => Pure.pure (Instr.lstore z)) (u1_run h1)
set_option maxRecDepth 100000 in
theorem dc_58 {code : ByteArray} {pc a : Nat} (h : rdN code pc = some 58) (h1 : rdN code (pc + 1) = some a) : decode code pc = .ok (.astore a, 2) := by
  refine (dec_of (nx := pc + 2) ?_).trans (by rw [Nat.add_sub_cancel_left])
  unfold Decoder.instr
  refine (rd_bind (u1_run h)).trans ?_
  exact rd_bind (f := fun z => Pure.pure (Instr.astore z)) (u1_run h1)
set_option maxRecDepth 100000 in
theorem dc_19 {code : ByteArray} {pc a b : Nat} (h : rdN code pc = some 19) (h1 : rdN code (pc + 1) = some a) (h2 : rdN code (pc + 1 + 1) = some b) : decode code pc = .ok (.ldc_w (a * 256 + b), 3) := by
  refine (dec_of (nx := pc + 3) ?_).trans (by rw [Nat.add_sub_cancel_left])
  unfold Decoder.instr
  refine (rd_bind (u1_run h)).trans ?_
  exact rd_bind (f := fun z => Pure.pure (Instr.ldc_w z)) (u2_run h1 h2)
set_option maxRecDepth 100000 in
theorem dc_20 {code : ByteArray} {pc a b : Nat} (h : rdN code pc = some 20) (h1 : rdN code (pc + 1) = some a) (h2 : rdN code (pc + 1 + 1) = some b) : decode code pc = .ok (.ldc2_w (a * 256 + b), 3) := by
  refine (dec_of (nx := pc + 3) ?_).trans (by rw [Nat.add_sub_cancel_left])
  unfold Decoder.instr
  refine (rd_bind (u1_run h)).trans ?_
  exact rd_bind (f := fun z => Pure.pure (Instr.ldc2_w z)) (u2_run h1 h2)
set_option maxRecDepth 100000 in
theorem dc_178 {code : ByteArray} {pc a b : Nat} (h : rdN code pc = some 178) (h1 : rdN code (pc + 1) = some a) (h2 : rdN code (pc + 1 + 1) = some b) : decode code pc = .ok (.getstatic (a * 256 + b), 3) := by
  refine (dec_of (nx := pc + 3) ?_).trans (by rw [Nat.add_sub_cancel_left])
  unfold Decoder.instr
  refine (rd_bind (u1_run h)).trans ?_
  exact rd_bind (f := fun z => Pure.pure (Instr.getstatic z)) (u2_run h1 h2)
set_option maxRecDepth 100000 in
theorem dc_179 {code : ByteArray} {pc a b : Nat} (h : rdN code pc = some 179) (h1 : rdN code (pc + 1) = some a) (h2 : rdN code (pc + 1 + 1) = some b) : decode code pc = .ok (.putstatic (a * 256 + b), 3) := by
  refine (dec_of (nx := pc + 3) ?_).trans (by rw [Nat.add_sub_cancel_left])
  unfold Decoder.instr
  refine (rd_bind (u1_run h)).trans ?_
  exact rd_bind (f := fun z => Pure.pure (Instr.putstatic z)) (u2_run h1 h2)
set_option maxRecDepth 100000 in
theorem dc_180 {code : ByteArray} {pc a b : Nat} (h : rdN code pc = some 180) (h1 : rdN code (pc + 1) = some a) (h2 : rdN code (pc + 1 + 1) = some b) : decode code pc = .ok (.getfield (a * 256 + b), 3) := by
  refine (dec_of (nx := pc + 3) ?_).trans (by rw [Nat.add_sub_cancel_left])
  unfold Decoder.instr
  refine (rd_bind (u1_run h)).trans ?_
  exact rd_bind (f := fun z => Pure.pure (Instr.getfield z)) (u2_run h1 h2)
set_option maxRecDepth 100000 in
theorem dc_181 {code : ByteArray} {pc a b : Nat} (h : rdN code pc = some 181) (h1 : rdN code (pc + 1) = some a) (h2 : rdN code (pc + 1 + 1) = some b) : decode code pc = .ok (.putfield (a * 256 + b), 3) := by
  refine (dec_of (nx := pc + 3) ?_).trans (by rw [Nat.add_sub_cancel_left])
  unfold Decoder.instr
  refine (rd_bind (u1_run h)).trans ?_
  exact rd_bind (f := fun z => Pure.pure (Instr.putfield z)) (u2_run h1 h2)
set_option maxRecDepth 100000 in
theorem dc_182 {code : ByteArray} {pc a b : Nat} (h : rdN code pc = some 182) (h1 : rdN code (pc + 1) = some a) (h2 : rdN code (pc + 1 + 1) = some b) : decode code pc = .ok (.invokevirtual (a * 256 + b), 3) := by
  refine (dec_of (nx := pc + 3) ?_).trans (by rw [Nat.add_sub_cancel_left])
  unfold Decoder.instr
  refine (rd_bind (u1_run h)).trans ?_
  exact rd_bind (f := fun z => Pure.pure (Instr.invokevirtual z)) (u2_run h1 h2)
set_option maxRecDepth 100000 in
theorem dc_183 {code : ByteArray} {pc a b : Nat} (h : rdN code pc = some 183) (h1 : rdN code (pc + 1) = some a) (h2 : rdN code (pc + 1 + 1) = some b) : decode code pc = .ok (.invokespecial (a * 256 + b), 3) := by
  refine (dec_of (nx := pc + 3) ?_).trans (by rw [Nat.add_sub_cancel_left])
  unfold Decoder.instr
  refine (rd_bind (u1_run h)).trans ?_
  exact rd_bind (f := fun z => Pure.pure (Instr.invokespecial z)) (u2_run h1 h2)
set_option maxRecDepth 100000 in
theorem dc_184 {code : ByteArray} {pc a b : Nat} (h : rdN code pc = some 184) (h1 : rdN code (pc + 1) = some a) (h2 : rdN code (pc + 1 + 1) = some b) : decode code pc = .ok (.invokestatic (a * 256 + b), 3) := by
  refine (dec_of (nx := pc + 3) ?_).trans (by rw [Nat.add_sub_cancel_left])
  unfold Decoder.instr
  refine (rd_bind (u1_run h)).trans ?_
  exact rd_bind (f := fun z => Pure.pure (Instr.invokestatic z)) (u2_run h1 h2)
set_option maxRecDepth 100000 in
theorem dc_187 {code : ByteArray} {pc a b : Nat} (h : rdN code pc = some 187) (h1 : rdN code (pc + 1) = some a) (h2 : rdN code (pc + 1 + 1) = some b) : decode code pc = .ok (.new (a * 256 + b), 3) := by
  refine (dec_of (nx := pc + 3) ?_).trans (by rw [Nat.add_sub_cancel_left])
  unfold Decoder.instr
  refine (rd_bind (u1_run h)).trans ?_
  exact rd_bind (f := fun z => Pure.pure (Instr.new z)) (u2_run h1 h2)
set_option maxRecDepth 100000 in
theorem dc_189 {code : ByteArray} {pc a b : Nat} (h : rdN code pc = some 189) (h1 : rdN code (pc + 1) = some a) (h2 : rdN code (pc + 1 + 1) = some b) : decode code pc = .ok (.anewarray (a * 256 + b), 3) := by
  refine (dec_of (nx := pc + 3) ?_).trans (by rw [Nat.add_sub_cancel_left])
  unfold Decoder.instr
  refine (rd_bind (u1_run h)).trans ?_
  exact rd_bind (f := fun z => Pure.pure (Instr.anewarray z)) (u2_run h1 h2)
set_option maxRecDepth 100000 in
theorem dc_192 {code : ByteArray} {pc a b : Nat} (h : rdN code pc = some 192) (h1 : rdN code (pc + 1) = some a) (h2 : rdN code (pc + 1 + 1) = some b) : decode code pc = .ok (.checkcast (a * 256 + b), 3) := by
  refine (dec_of (nx := pc + 3) ?_).trans (by rw [Nat.add_sub_cancel_left])
  unfold Decoder.instr
  refine (rd_bind (u1_run h)).trans ?_
  exact rd_bind (f := fun z => Pure.pure (Instr.checkcast z)) (u2_run h1 h2)
set_option maxRecDepth 100000 in
theorem dc_193 {code : ByteArray} {pc a b : Nat} (h : rdN code pc = some 193) (h1 : rdN code (pc + 1) = some a) (h2 : rdN code (pc + 1 + 1) = some b) : decode code pc = .ok (.instanceof (a * 256 + b), 3) := by
  refine (dec_of (nx := pc + 3) ?_).trans (by rw [Nat.add_sub_cancel_left])
  unfold Decoder.instr
  refine (rd_bind (u1_run h)).trans ?_
  exact rd_bind (f := fun z => Pure.pure (Instr.instanceof z)) (u2_run h1 h2)
set_option maxRecDepth 100000 in
theorem dc_17 {code : ByteArray} {pc a b : Nat} (h : rdN code pc = some 17) (h1 : rdN code (pc + 1) = some a) (h2 : rdN code (pc + 1 + 1) = some b) : decode code pc = .ok (.sipush (Reader.signed 16 (a * 256 + b)), 3) := by
  refine (dec_of (nx := pc + 3) ?_).trans (by rw [Nat.add_sub_cancel_left])
  unfold Decoder.instr
  refine (rd_bind (u1_run h)).trans ?_
  exact rd_bind (f := fun z => Pure.pure (Instr.sipush z)) (s2_run h1 h2)
set_option maxRecDepth 100000 in
theorem dc_167 {code : ByteArray} {pc a b : Nat} (h : rdN code pc = some 167) (h1 : rdN code (pc + 1) = some a) (h2 : rdN code (pc + 1 + 1) = some b) : decode code pc = .ok (.goto (Reader.signed 16 (a * 256 + b)), 3) := by
  refine (dec_of (nx := pc + 3) ?_).trans (by rw [Nat.add_sub_cancel_left])
  unfold Decoder.instr
  refine (rd_bind (u1_run h)).trans ?_
  exact rd_bind (f := fun z => Pure.pure (Instr.goto z)) (s2_run h1 h2)
set_option maxRecDepth 100000 in
theorem dc_198 {code : ByteArray} {pc a b : Nat} (h : rdN code pc = some 198) (h1 : rdN code (pc + 1) = some a) (h2 : rdN code (pc + 1 + 1) = some b) : decode code pc = .ok (.ifnull (Reader.signed 16 (a * 256 + b)), 3) := by
  refine (dec_of (nx := pc + 3) ?_).trans (by rw [Nat.add_sub_cancel_left])
  unfold Decoder.instr
  refine (rd_bind (u1_run h)).trans ?_
  exact rd_bind (f := fun z => Pure.pure (Instr.ifnull z)) (s2_run h1 h2)
set_option maxRecDepth 100000 in
theorem dc_199 {code : ByteArray} {pc a b : Nat} (h : rdN code pc = some 199) (h1 : rdN code (pc + 1) = some a) (h2 : rdN code (pc + 1 + 1) = some b) : decode code pc = .ok (.ifnonnull (Reader.signed 16 (a * 256 + b)), 3) := by
  refine (dec_of (nx := pc + 3) ?_).trans (by rw [Nat.add_sub_cancel_left])
  unfold Decoder.instr
  refine (rd_bind (u1_run h)).trans ?_
  exact rd_bind (f := fun z => Pure.pure (Instr.ifnonnull z)) (s2_run h1 h2)
set_option maxRecDepth 100000 in
theorem dc_153 {code : ByteArray} {pc a b : Nat} (h : rdN code pc = some 153) (h1 : rdN code (pc + 1) = some a) (h2 : rdN code (pc + 1 + 1) = some b) : decode code pc = .ok (.ifCond .eq (Reader.signed 16 (a * 256 + b)), 3) := by
  refine (dec_of (nx := pc + 3) ?_).trans (by rw [Nat.add_sub_cancel_left])
  unfold Decoder.instr
  refine (rd_bind (u1_run h)).trans ?_
  exact rd_bind (f := fun z => Pure.pure (Instr.ifCond .eq z)) (s2_run h1 h2)
set_option maxRecDepth 100000 in
theorem dc_154 {code : ByteArray} {pc a b : Nat} (h : rdN code pc = some 154) (h1 : rdN code (pc + 1) = some a) (h2 : rdN code (pc + 1 + 1) = some b) : decode code pc = .ok (.ifCond .ne (Reader.signed 16 (a * 256 + b)), 3) := by
  refine (dec_of (nx := pc + 3) ?_).trans (by rw [Nat.add_sub_cancel_left])
  unfold Decoder.instr
  refine (rd_bind (u1_run h)).trans ?_
  exact rd_bind (f := fun z => Pure.pure (Instr.ifCond .ne z)) (s2_run h1 h2)
set_option maxRecDepth 100000 in
theorem dc_155 {code : ByteArray} {pc a b : Nat} (h : rdN code pc = some 155) (h1 : rdN code (pc + 1) = some a) (h2 : rdN code (pc + 1 + 1) = some b) : decode code pc = .ok (.ifCond .lt (Reader.signed 16 (a * 256 + b)), 3) := by
  refine (dec_of (nx := pc + 3) ?_).trans (by rw [Nat.add_sub_cancel_left])
  unfold Decoder.instr
  refine (rd_bind (u1_run h)).trans ?_
  exact rd_bind (f := fun z => Pure.pure (Instr.ifCond .lt z)) (s2_run h1 h2)
set_option maxRecDepth 100000 in
theorem dc_156 {code : ByteArray} {pc a b : Nat} (h : rdN code pc = some 156) (h1 : rdN code (pc + 1) = some a) (h2 : rdN code (pc + 1 + 1) = some b) : decode code pc = .ok (.ifCond .ge (Reader.signed 16 (a * 256 + b)), 3) := by
  refine (dec_of (nx := pc + 3) ?_).trans (by rw [Nat.add_sub_cancel_left])
  unfold Decoder.instr
  refine (rd_bind (u1_run h)).trans ?_
  exact rd_bind (f := fun z => Pure.pure (Instr.ifCond .ge z)) (s2_run h1 h2)
set_option maxRecDepth 100000 in
theorem dc_157 {code : ByteArray} {pc a b : Nat} (h : rdN code pc = some 157) (h1 : rdN code (pc + 1) = some a) (h2 : rdN code (pc + 1 + 1) = some b) : decode code pc = .ok (.ifCond .gt (Reader.signed 16 (a * 256 + b)), 3) := by
  refine (dec_of (nx := pc + 3) ?_).trans (by rw [Nat.add_sub_cancel_left])
  unfold Decoder.instr
  refine (rd_bind (u1_run h)).trans ?_
  exact rd_bind (f := fun z => Pure.pure (Instr.ifCond .gt z)) (s2_run h1 h2)
set_option maxRecDepth 100000 in
theorem dc_158 {code : ByteArray} {pc a b : Nat} (h : rdN code pc = some 158) (h1 : rdN code (pc + 1) = some a) (h2 : rdN code (pc + 1 + 1) = some b) : decode code pc = .ok (.ifCond .le (Reader.signed 16 (a * 256 + b)), 3) := by
  refine (dec_of (nx := pc + 3) ?_).trans (by rw [Nat.add_sub_cancel_left])
  unfold Decoder.instr
  refine (rd_bind (u1_run h)).trans ?_
  exact rd_bind (f := fun z => Pure.pure (Instr.ifCond .le z)) (s2_run h1 h2)
set_option maxRecDepth 100000 in
theorem dc_159 {code : ByteArray} {pc a b : Nat} (h : rdN code pc = some 159) (h1 : rdN code (pc + 1) = some a) (h2 : rdN code (pc + 1 + 1) = some b) : decode code pc = .ok (.if_icmp .eq (Reader.signed 16 (a * 256 + b)), 3) := by
  refine (dec_of (nx := pc + 3) ?_).trans (by rw [Nat.add_sub_cancel_left])
  unfold Decoder.instr
  refine (rd_bind (u1_run h)).trans ?_
  exact rd_bind (f := fun z => Pure.pure (Instr.if_icmp .eq z)) (s2_run h1 h2)
set_option maxRecDepth 100000 in
theorem dc_160 {code : ByteArray} {pc a b : Nat} (h : rdN code pc = some 160) (h1 : rdN code (pc + 1) = some a) (h2 : rdN code (pc + 1 + 1) = some b) : decode code pc = .ok (.if_icmp .ne (Reader.signed 16 (a * 256 + b)), 3) := by
  refine (dec_of (nx := pc + 3) ?_).trans (by rw [Nat.add_sub_cancel_left])
  unfold Decoder.instr
  refine (rd_bind (u1_run h)).trans ?_
  exact rd_bind (f := fun z => Pure.pure (Instr.if_icmp .ne z)) (s2_run h1 h2)
set_option maxRecDepth 100000 in
theorem dc_161 {code : ByteArray} {pc a b : Nat} (h : rdN code pc = some 161) (h1 : rdN code (pc + 1) = some a) (h2 : rdN code (pc + 1 + 1) = some b) : decode code pc = .ok (.if_icmp .lt (Reader.signed 16 (a * 256 + b)), 3) := by
  refine (dec_of (nx := pc + 3) ?_).trans (by rw [Nat.add_sub_cancel_left])
  unfold Decoder.instr
  refine (rd_bind (u1_run h)).trans ?_
  exact rd_bind (f := fun z => Pure.pure (Instr.if_icmp .lt z)) (s2_run h1 h2)
set_option maxRecDepth 100000 in
theorem dc_162 {code : ByteArray} {pc a b : Nat} (h : rdN code pc = some 162) (h1 : rdN code (pc + 1) = some a) (h2 : rdN code (pc + 1 + 1) = some b) : decode code pc = .ok (.if_icmp .ge (Reader.signed 16 (a * 256 + b)), 3) := by
  refine (dec_of (nx := pc + 3) ?_).trans (by rw [Nat.add_sub_cancel_left])
  unfold Decoder.instr
  refine (rd_bind (u1_run h)).trans ?_
  exact rd_bind (f := fun z => Pure.pure (Instr.if_icmp .ge z)) (s2_run h1 h2)
set_option maxRecDepth 100000 in
theorem dc_163 {code : ByteArray} {pc a b : Nat} (h : rdN code pc = some 163) (h1 : rdN code (pc + 1) = some a) (h2 : rdN code (pc + 1 + 1) = some b) : decode code pc = .ok (.if_icmp .gt (Reader.signed 16 (a * 256 + b)), 3) := by
  refine (dec_of (nx := pc + 3) ?_).trans (by rw [Nat.add_sub_cancel_left])
  unfold Decoder.instr
  refine (rd_bind (u1_run h)).trans ?_
  exact rd_bind (f := fun z => Pure.pure (Instr.if_icmp .gt z)) (s2_run h1 h2)
set_option maxRecDepth 100000 in
theorem dc_164 {code : ByteArray} {pc a b : Nat} (h : rdN code pc = some 164) (h1 : rdN code (pc + 1) = some a) (h2 : rdN code (pc + 1 + 1) = some b) : decode code pc = .ok (.if_icmp .le (Reader.signed 16 (a * 256 + b)), 3) := by
  refine (dec_of (nx := pc + 3) ?_).trans (by rw [Nat.add_sub_cancel_left])
  unfold Decoder.instr
  refine (rd_bind (u1_run h)).trans ?_
  exact rd_bind (f := fun z => Pure.pure (Instr.if_icmp .le z)) (s2_run h1 h2)
set_option maxRecDepth 100000 in
theorem dc_165 {code : ByteArray} {pc a b : Nat} (h : rdN code pc = some 165) (h1 : rdN code (pc + 1) = some a) (h2 : rdN code (pc + 1 + 1) = some b) : decode code pc = .ok (.if_acmp .eq (Reader.signed 16 (a * 256 + b)), 3) := by
  refine (dec_of (nx := pc + 3) ?_).trans (by rw [Nat.add_sub_cancel_left])
  unfold Decoder.instr
  refine (rd_bind (u1_run h)).trans ?_
  exact rd_bind (f := fun z => Pure.pure (Instr.if_acmp .eq z)) (s2_run h1 h2)
set_option maxRecDepth 100000 in
theorem dc_166 {code : ByteArray} {pc a b : Nat} (h : rdN code pc = some 166) (h1 : rdN code (pc + 1) = some a) (h2 : rdN code (pc + 1 + 1) = some b) : decode code pc = .ok (.if_acmp .ne (Reader.signed 16 (a * 256 + b)), 3) := by
  refine (dec_of (nx := pc + 3) ?_).trans (by rw [Nat.add_sub_cancel_left])
  unfold Decoder.instr
  refine (rd_bind (u1_run h)).trans ?_
  exact rd_bind (f := fun z => Pure.pure (Instr.if_acmp .ne z)) (s2_run h1 h2)
set_option maxRecDepth 100000 in
theorem dc_16 {code : ByteArray} {pc a : Nat} (h : rdN code pc = some 16) (h1 : rdN code (pc + 1) = some a) : decode code pc = .ok (.bipush (Reader.signed 8 a), 2) := by
  refine (dec_of (nx := pc + 2) ?_).trans (by rw [Nat.add_sub_cancel_left])
  unfold Decoder.instr
  refine (rd_bind (u1_run h)).trans ?_
  exact rd_bind (f := fun z => Pure.pure (Instr.bipush z)) (s1_run h1)
set_option maxRecDepth 100000 in
theorem dc_132 {code : ByteArray} {pc a b : Nat} (h : rdN code pc = some 132) (h1 : rdN code (pc + 1) = some a) (h2 : rdN code (pc + 1 + 1) = some b) : decode code pc = .ok (.iinc a (Reader.signed 8 b), 3) := by
  refine (dec_of (nx := pc + 3) ?_).trans (by rw [Nat.add_sub_cancel_left])
  unfold Decoder.instr
  refine (rd_bind (u1_run h)).trans ?_
  refine (rd_bind (f := fun y => Reader.s1 >>= fun z => Pure.pure (Instr.iinc y z)) (u1_run h1)).trans ?_
  exact rd_bind (f := fun z => Pure.pure (Instr.iinc a z)) (s1_run h2)
def codeL (code : ByteArray) : List Nat := code.data.toList.map (fun x => x.toNat)
theorem rdN_codeL {code : ByteArray} {p : Nat} : rdN code p = (codeL code)[p]? := by
  unfold rdN codeL
  by_cases h : p < code.size
  · rw [dif_pos h, List.getElem?_map, Array.getElem?_toList, Array.getElem?_eq_getElem (show p < code.data.size from h)]
    rfl
  · rw [dif_neg h, List.getElem?_map, Array.getElem?_toList, Array.getElem?_eq_none (show code.data.size ≤ p from Nat.not_lt.mp h)]
    rfl
/-- does an instruction stand at the beginning of a row of bytes -/
def mtI (i : Instr) (bs : List Nat) : Nat := match bs with
  | [] => 0
  | b0 :: r0 => match i with
    | .iconst n => if n + 3 = (b0 : Int) ∧ b0 ≤ 8 ∧ 2 ≤ b0 then 1 else 0
    | .lconst n => if (n : Nat) + 9 = b0 then 1 else 0
    | .iload_n n => if (n : Nat) + 26 = b0 then 1 else 0
    | .lload_n n => if (n : Nat) + 30 = b0 then 1 else 0
    | .aload_n n => if (n : Nat) + 42 = b0 then 1 else 0
    | .istore_n n => if (n : Nat) + 59 = b0 then 1 else 0
    | .lstore_n n => if (n : Nat) + 63 = b0 then 1 else 0
    | .astore_n n => if (n : Nat) + 75 = b0 then 1 else 0
    | .aconst_null => if b0 = 1 then 1 else 0
    | .iaload => if b0 = 46 then 1 else 0
    | .laload => if b0 = 47 then 1 else 0
    | .aaload => if b0 = 50 then 1 else 0
    | .baload => if b0 = 51 then 1 else 0
    | .caload => if b0 = 52 then 1 else 0
    | .iastore => if b0 = 79 then 1 else 0
    | .lastore => if b0 = 80 then 1 else 0
    | .aastore => if b0 = 83 then 1 else 0
    | .bastore => if b0 = 84 then 1 else 0
    | .castore => if b0 = 85 then 1 else 0
    | .pop => if b0 = 87 then 1 else 0
    | .pop2 => if b0 = 88 then 1 else 0
    | .dup => if b0 = 89 then 1 else 0
    | .dup_x1 => if b0 = 90 then 1 else 0
    | .dup_x2 => if b0 = 91 then 1 else 0
    | .dup2 => if b0 = 92 then 1 else 0
    | .dup2_x1 => if b0 = 93 then 1 else 0
    | .dup2_x2 => if b0 = 94 then 1 else 0
    | .iadd => if b0 = 96 then 1 else 0
    | .ladd => if b0 = 97 then 1 else 0
    | .isub => if b0 = 100 then 1 else 0
    | .lsub => if b0 = 101 then 1 else 0
    | .imul => if b0 = 104 then 1 else 0
    | .lmul => if b0 = 105 then 1 else 0
    | .idiv => if b0 = 108 then 1 else 0
    | .ldiv => if b0 = 109 then 1 else 0
    | .irem => if b0 = 112 then 1 else 0
    | .lrem => if b0 = 113 then 1 else 0
    | .ineg => if b0 = 116 then 1 else 0
    | .lneg => if b0 = 117 then 1 else 0
    | .ishl => if b0 = 120 then 1 else 0
    | .lshl => if b0 = 121 then 1 else 0
    | .ishr => if b0 = 122 then 1 else 0
    | .lshr => if b0 = 123 then 1 else 0
    | .iushr => if b0 = 124 then 1 else 0
    | .lushr => if b0 = 125 then 1 else 0
    | .iand => if b0 = 126 then 1 else 0
    | .land => if b0 = 127 then 1 else 0
    | .ior => if b0 = 128 then 1 else 0
    | .lor => if b0 = 129 then 1 else 0
    | .ixor => if b0 = 130 then 1 else 0
    | .lxor => if b0 = 131 then 1 else 0
    | .i2l => if b0 = 133 then 1 else 0
    | .l2i => if b0 = 136 then 1 else 0
    | .i2b => if b0 = 145 then 1 else 0
    | .i2c => if b0 = 146 then 1 else 0
    | .lcmp => if b0 = 148 then 1 else 0
    | .ireturn => if b0 = 172 then 1 else 0
    | .lreturn => if b0 = 173 then 1 else 0
    | .areturn => if b0 = 176 then 1 else 0
    | .return_ => if b0 = 177 then 1 else 0
    | .arraylength => if b0 = 190 then 1 else 0
    | _ => match r0 with
      | [] => 0
      | b1 :: r1 => match i with
        | .bipush n => if b0 = 16 ∧ n = Reader.signed 8 b1 then 2 else 0
        | .ldc n => if b0 = 18 ∧ n = b1 then 2 else 0
        | .iload n => if b0 = 21 ∧ n = b1 then 2 else 0
        | .lload n => if b0 = 22 ∧ n = b1 then 2 else 0
        | .aload n => if b0 = 25 ∧ n = b1 then 2 else 0
        | .istore n => if b0 = 54 ∧ n = b1 then 2 else 0
        | .lstore n => if b0 = 55 ∧ n = b1 then 2 else 0
        | .astore n => if b0 = 58 ∧ n = b1 then 2 else 0
        | _ => match r1 with
          | [] => 0
          | b2 :: _ => match i with
            | .ldc_w n => if b0 = 19 ∧ n = b1 * 256 + b2 then 3 else 0
            | .ldc2_w n => if b0 = 20 ∧ n = b1 * 256 + b2 then 3 else 0
            | .getstatic n => if b0 = 178 ∧ n = b1 * 256 + b2 then 3 else 0
            | .putstatic n => if b0 = 179 ∧ n = b1 * 256 + b2 then 3 else 0
            | .getfield n => if b0 = 180 ∧ n = b1 * 256 + b2 then 3 else 0
            | .putfield n => if b0 = 181 ∧ n = b1 * 256 + b2 then 3 else 0
            | .invokevirtual n => if b0 = 182 ∧ n = b1 * 256 + b2 then 3 else 0
            | .invokespecial n => if b0 = 183 ∧ n = b1 * 256 + b2 then 3 else 0
            | .invokestatic n => if b0 = 184 ∧ n = b1 * 256 + b2 then 3 else 0
            | .new n => if b0 = 187 ∧ n = b1 * 256 + b2 then 3 else 0
            | .anewarray n => if b0 = 189 ∧ n = b1 * 256 + b2 then 3 else 0
            | .checkcast n => if b0 = 192 ∧ n = b1 * 256 + b2 then 3 else 0
            | .instanceof n => if b0 = 193 ∧ n = b1 * 256 + b2 then 3 else 0
            | .sipush n => if b0 = 17 ∧ n = Reader.signed 16 (b1 * 256 + b2) then 3 else 0
            | .goto n => if b0 = 167 ∧ n = Reader.signed 16 (b1 * 256 + b2) then 3 else 0
            | .ifnull n => if b0 = 198 ∧ n = Reader.signed 16 (b1 * 256 + b2) then 3 else 0
            | .ifnonnull n => if b0 = 199 ∧ n = Reader.signed 16 (b1 * 256 + b2) then 3 else 0
            | .ifCond .eq n => if b0 = 153 ∧ n = Reader.signed 16 (b1 * 256 + b2) then 3 else 0
            | .ifCond .ne n => if b0 = 154 ∧ n = Reader.signed 16 (b1 * 256 + b2) then 3 else 0
            | .ifCond .lt n => if b0 = 155 ∧ n = Reader.signed 16 (b1 * 256 + b2) then 3 else 0
            | .ifCond .ge n => if b0 = 156 ∧ n = Reader.signed 16 (b1 * 256 + b2) then 3 else 0
            | .ifCond .gt n => if b0 = 157 ∧ n = Reader.signed 16 (b1 * 256 + b2) then 3 else 0
            | .ifCond .le n => if b0 = 158 ∧ n = Reader.signed 16 (b1 * 256 + b2) then 3 else 0
            | .if_icmp .eq n => if b0 = 159 ∧ n = Reader.signed 16 (b1 * 256 + b2) then 3 else 0
            | .if_icmp .ne n => if b0 = 160 ∧ n = Reader.signed 16 (b1 * 256 + b2) then 3 else 0
            | .if_icmp .lt n => if b0 = 161 ∧ n = Reader.signed 16 (b1 * 256 + b2) then 3 else 0
            | .if_icmp .ge n => if b0 = 162 ∧ n = Reader.signed 16 (b1 * 256 + b2) then 3 else 0
            | .if_icmp .gt n => if b0 = 163 ∧ n = Reader.signed 16 (b1 * 256 + b2) then 3 else 0
            | .if_icmp .le n => if b0 = 164 ∧ n = Reader.signed 16 (b1 * 256 + b2) then 3 else 0
            | .if_acmp .eq n => if b0 = 165 ∧ n = Reader.signed 16 (b1 * 256 + b2) then 3 else 0
            | .if_acmp .ne n => if b0 = 166 ∧ n = Reader.signed 16 (b1 * 256 + b2) then 3 else 0
            | .iinc n d => if b0 = 132 ∧ n = b1 ∧ d = Reader.signed 8 b2 then 3 else 0
            | _ => 0
set_option maxRecDepth 100000 in
set_option maxHeartbeats 4000000 in
theorem mtI_ok {code : ByteArray} {pc : Nat} {i : Instr} {bs : List Nat} {n : Nat} (hb : ∀ j, rdN code (pc + j) = bs[j]?) (h : mtI i bs = n) (hn : n ≠ 0) : decode code pc = .ok (i, n) := by
  subst h
  cases bs with
  | nil => exact absurd rfl hn
  | cons b0 r0 =>
    have h0 : rdN code pc = some b0 := hb 0
    cases i with
    | iconst n =>
      dsimp only [mtI] at hn ⊢
      split at hn
      next hq =>
        rw [if_pos hq]
        obtain ⟨q1, q2, q3⟩ := hq
        have q4 : b0 = 2 ∨ b0 = 3 ∨ b0 = 4 ∨ b0 = 5 ∨ b0 = 6 ∨ b0 = 7 ∨ b0 = 8 := by omega
        rcases q4 with rfl | rfl | rfl | rfl | rfl | rfl | rfl
        · obtain rfl : n = -1 := by omega
          exact dc_2 h0
        · obtain rfl : n = 0 := by omega
          exact dc_3 h0
        · obtain rfl : n = 1 := by omega
          exact dc_4 h0
        · obtain rfl : n = 2 := by omega
          exact dc_5 h0
        · obtain rfl : n = 3 := by omega
          exact dc_6 h0
        · obtain rfl : n = 4 := by omega
          exact dc_7 h0
        · obtain rfl : n = 5 := by omega
          exact dc_8 h0
      next => exact absurd rfl hn
    | lconst n =>
      dsimp only [mtI] at hn ⊢
      split at hn
      next hq =>
        rw [if_pos hq]
        have q4 : (n : Nat) = 0 ∨ (n : Nat) = 1 := by omega
        rcases q4 with q | q
        · obtain rfl : n = 0 := Fin.ext q
          subst hq
          exact dc_9 h0
        · obtain rfl : n = 1 := Fin.ext q
          subst hq
          exact dc_10 h0
      next => exact absurd rfl hn
    | iload_n n =>
      dsimp only [mtI] at hn ⊢
      split at hn
      next hq =>
        rw [if_pos hq]
        have q4 : (n : Nat) = 0 ∨ (n : Nat) = 1 ∨ (n : Nat) = 2 ∨ (n : Nat) = 3 := by omega
        rcases q4 with q | q | q | q
        · obtain rfl : n = 0 := Fin.ext q
          subst hq
          exact dc_26 h0
        · obtain rfl : n = 1 := Fin.ext q
          subst hq
          exact dc_27 h0
        · obtain rfl : n = 2 := Fin.ext q
          subst hq
          exact dc_28 h0
        · obtain rfl : n = 3 := Fin.ext q
          subst hq
          exact dc_29 h0
      next => exact absurd rfl hn
    | lload_n n =>
      dsimp only [mtI] at hn ⊢
      split at hn
      next hq =>
        rw [if_pos hq]
        have q4 : (n : Nat) = 0 ∨ (n : Nat) = 1 ∨ (n : Nat) = 2 ∨ (n : Nat) = 3 := by omega
        rcases q4 with q | q | q | q
        · obtain rfl : n = 0 := Fin.ext q
          subst hq
          exact dc_30 h0
        · obtain rfl : n = 1 := Fin.ext q
          subst hq
          exact dc_31 h0
        · obtain rfl : n = 2 := Fin.ext q
          subst hq
          exact dc_32 h0
        · obtain rfl : n = 3 := Fin.ext q
          subst hq
          exact dc_33 h0
      next => exact absurd rfl hn
    | aload_n n =>
      dsimp only [mtI] at hn ⊢
      split at hn
      next hq =>
        rw [if_pos hq]
        have q4 : (n : Nat) = 0 ∨ (n : Nat) = 1 ∨ (n : Nat) = 2 ∨ (n : Nat) = 3 := by omega
        rcases q4 with q | q | q | q
        · obtain rfl : n = 0 := Fin.ext q
          subst hq
          exact dc_42 h0
        · obtain rfl : n = 1 := Fin.ext q
          subst hq
          exact dc_43 h0
        · obtain rfl : n = 2 := Fin.ext q
          subst hq
          exact dc_44 h0
        · obtain rfl : n = 3 := Fin.ext q
          subst hq
          exact dc_45 h0
      next => exact absurd rfl hn
    | istore_n n =>
      dsimp only [mtI] at hn ⊢
      split at hn
      next hq =>
        rw [if_pos hq]
        have q4 : (n : Nat) = 0 ∨ (n : Nat) = 1 ∨ (n : Nat) = 2 ∨ (n : Nat) = 3 := by omega
        rcases q4 with q | q | q | q
        · obtain rfl : n = 0 := Fin.ext q
          subst hq
          exact dc_59 h0
        · obtain rfl : n = 1 := Fin.ext q
          subst hq
          exact dc_60 h0
        · obtain rfl : n = 2 := Fin.ext q
          subst hq
          exact dc_61 h0
        · obtain rfl : n = 3 := Fin.ext q
          subst hq
          exact dc_62 h0
      next => exact absurd rfl hn
    | lstore_n n =>
      dsimp only [mtI] at hn ⊢
      split at hn
      next hq =>
        rw [if_pos hq]
        have q4 : (n : Nat) = 0 ∨ (n : Nat) = 1 ∨ (n : Nat) = 2 ∨ (n : Nat) = 3 := by omega
        rcases q4 with q | q | q | q
        · obtain rfl : n = 0 := Fin.ext q
          subst hq
          exact dc_63 h0
        · obtain rfl : n = 1 := Fin.ext q
          subst hq
          exact dc_64 h0
        · obtain rfl : n = 2 := Fin.ext q
          subst hq
          exact dc_65 h0
        · obtain rfl : n = 3 := Fin.ext q
          subst hq
          exact dc_66 h0
      next => exact absurd rfl hn
    | astore_n n =>
      dsimp only [mtI] at hn ⊢
      split at hn
      next hq =>
        rw [if_pos hq]
        have q4 : (n : Nat) = 0 ∨ (n : Nat) = 1 ∨ (n : Nat) = 2 ∨ (n : Nat) = 3 := by omega
        rcases q4 with q | q | q | q
        · obtain rfl : n = 0 := Fin.ext q
          subst hq
          exact dc_75 h0
        · obtain rfl : n = 1 := Fin.ext q
          subst hq
          exact dc_76 h0
        · obtain rfl : n = 2 := Fin.ext q
          subst hq
          exact dc_77 h0
        · obtain rfl : n = 3 := Fin.ext q
          subst hq
          exact dc_78 h0
      next => exact absurd rfl hn
    | aconst_null =>
      dsimp only [mtI] at hn ⊢
      split at hn
      next hq => rw [if_pos hq]; subst hq; exact dc_1 h0
      next => exact absurd rfl hn
    | iaload =>
      dsimp only [mtI] at hn ⊢
      split at hn
      next hq => rw [if_pos hq]; subst hq; exact dc_46 h0
      next => exact absurd rfl hn
    | laload =>
      dsimp only [mtI] at hn ⊢
      split at hn
      next hq => rw [if_pos hq]; subst hq; exact dc_47 h0
      next => exact absurd rfl hn
    | aaload =>
      dsimp only [mtI] at hn ⊢
      split at hn
      next hq => rw [if_pos hq]; subst hq; exact dc_50 h0
      next => exact absurd rfl hn
    | baload =>
      dsimp only [mtI] at hn ⊢
      split at hn
      next hq => rw [if_pos hq]; subst hq; exact dc_51 h0
      next => exact absurd rfl hn
    | caload =>
      dsimp only [mtI] at hn ⊢
      split at hn
      next hq => rw [if_pos hq]; subst hq; exact dc_52 h0
      next => exact absurd rfl hn
    | iastore =>
      dsimp only [mtI] at hn ⊢
      split at hn
      next hq => rw [if_pos hq]; subst hq; exact dc_79 h0
      next => exact absurd rfl hn
    | lastore =>
      dsimp only [mtI] at hn ⊢
      split at hn
      next hq => rw [if_pos hq]; subst hq; exact dc_80 h0
      next => exact absurd rfl hn
    | aastore =>
      dsimp only [mtI] at hn ⊢
      split at hn
      next hq => rw [if_pos hq]; subst hq; exact dc_83 h0
      next => exact absurd rfl hn
    | bastore =>
      dsimp only [mtI] at hn ⊢
      split at hn
      next hq => rw [if_pos hq]; subst hq; exact dc_84 h0
      next => exact absurd rfl hn
    | castore =>
      dsimp only [mtI] at hn ⊢
      split at hn
      next hq => rw [if_pos hq]; subst hq; exact dc_85 h0
      next => exact absurd rfl hn
    | pop =>
      dsimp only [mtI] at hn ⊢
      split at hn
      next hq => rw [if_pos hq]; subst hq; exact dc_87 h0
      next => exact absurd rfl hn
    | pop2 =>
      dsimp only [mtI] at hn ⊢
      split at hn
      next hq => rw [if_pos hq]; subst hq; exact dc_88 h0
      next => exact absurd rfl hn
    | dup =>
      dsimp only [mtI] at hn ⊢
      split at hn
      next hq => rw [if_pos hq]; subst hq; exact dc_89 h0
      next => exact absurd rfl hn
    | dup_x1 =>
      dsimp only [mtI] at hn ⊢
      split at hn
      next hq => rw [if_pos hq]; subst hq; exact dc_90 h0
      next => exact absurd rfl hn
    | dup_x2 =>
      dsimp only [mtI] at hn ⊢
      split at hn
      next hq => rw [if_pos hq]; subst hq; exact dc_91 h0
      next => exact absurd rfl hn
    | dup2 =>
      dsimp only [mtI] at hn ⊢
      split at hn
      next hq => rw [if_pos hq]; subst hq; exact dc_92 h0
      next => exact absurd rfl hn
    | dup2_x1 =>
      dsimp only [mtI] at hn ⊢
      split at hn
      next hq => rw [if_pos hq]; subst hq; exact dc_93 h0
      next => exact absurd rfl hn
    | dup2_x2 =>
      dsimp only [mtI] at hn ⊢
      split at hn
      next hq => rw [if_pos hq]; subst hq; exact dc_94 h0
      next => exact absurd rfl hn
    | iadd =>
      dsimp only [mtI] at hn ⊢
      split at hn
      next hq => rw [if_pos hq]; subst hq; exact dc_96 h0
      next => exact absurd rfl hn
    | ladd =>
      dsimp only [mtI] at hn ⊢
      split at hn
      next hq => rw [if_pos hq]; subst hq; exact dc_97 h0
      next => exact absurd rfl hn
    | isub =>
      dsimp only [mtI] at hn ⊢
      split at hn
      next hq => rw [if_pos hq]; subst hq; exact dc_100 h0
      next => exact absurd rfl hn
    | lsub =>
      dsimp only [mtI] at hn ⊢
      split at hn
      next hq => rw [if_pos hq]; subst hq; exact dc_101 h0
      next => exact absurd rfl hn
    | imul =>
      dsimp only [mtI] at hn ⊢
      split at hn
      next hq => rw [if_pos hq]; subst hq; exact dc_104 h0
      next => exact absurd rfl hn
    | lmul =>
      dsimp only [mtI] at hn ⊢
      split at hn
      next hq => rw [if_pos hq]; subst hq; exact dc_105 h0
      next => exact absurd rfl hn
    | idiv =>
      dsimp only [mtI] at hn ⊢
      split at hn
      next hq => rw [if_pos hq]; subst hq; exact dc_108 h0
      next => exact absurd rfl hn
    | ldiv =>
      dsimp only [mtI] at hn ⊢
      split at hn
      next hq => rw [if_pos hq]; subst hq; exact dc_109 h0
      next => exact absurd rfl hn
    | irem =>
      dsimp only [mtI] at hn ⊢
      split at hn
      next hq => rw [if_pos hq]; subst hq; exact dc_112 h0
      next => exact absurd rfl hn
    | lrem =>
      dsimp only [mtI] at hn ⊢
      split at hn
      next hq => rw [if_pos hq]; subst hq; exact dc_113 h0
      next => exact absurd rfl hn
    | ineg =>
      dsimp only [mtI] at hn ⊢
      split at hn
      next hq => rw [if_pos hq]; subst hq; exact dc_116 h0
      next => exact absurd rfl hn
    | lneg =>
      dsimp only [mtI] at hn ⊢
      split at hn
      next hq => rw [if_pos hq]; subst hq; exact dc_117 h0
      next => exact absurd rfl hn
    | ishl =>
      dsimp only [mtI] at hn ⊢
      split at hn
      next hq => rw [if_pos hq]; subst hq; exact dc_120 h0
      next => exact absurd rfl hn
    | lshl =>
      dsimp only [mtI] at hn ⊢
      split at hn
      next hq => rw [if_pos hq]; subst hq; exact dc_121 h0
      next => exact absurd rfl hn
    | ishr =>
      dsimp only [mtI] at hn ⊢
      split at hn
      next hq => rw [if_pos hq]; subst hq; exact dc_122 h0
      next => exact absurd rfl hn
    | lshr =>
      dsimp only [mtI] at hn ⊢
      split at hn
      next hq => rw [if_pos hq]; subst hq; exact dc_123 h0
      next => exact absurd rfl hn
    | iushr =>
      dsimp only [mtI] at hn ⊢
      split at hn
      next hq => rw [if_pos hq]; subst hq; exact dc_124 h0
      next => exact absurd rfl hn
    | lushr =>
      dsimp only [mtI] at hn ⊢
      split at hn
      next hq => rw [if_pos hq]; subst hq; exact dc_125 h0
      next => exact absurd rfl hn
    | iand =>
      dsimp only [mtI] at hn ⊢
      split at hn
      next hq => rw [if_pos hq]; subst hq; exact dc_126 h0
      next => exact absurd rfl hn
    | land =>
      dsimp only [mtI] at hn ⊢
      split at hn
      next hq => rw [if_pos hq]; subst hq; exact dc_127 h0
      next => exact absurd rfl hn
    | ior =>
      dsimp only [mtI] at hn ⊢
      split at hn
      next hq => rw [if_pos hq]; subst hq; exact dc_128 h0
      next => exact absurd rfl hn
    | lor =>
      dsimp only [mtI] at hn ⊢
      split at hn
      next hq => rw [if_pos hq]; subst hq; exact dc_129 h0
      next => exact absurd rfl hn
    | ixor =>
      dsimp only [mtI] at hn ⊢
      split at hn
      next hq => rw [if_pos hq]; subst hq; exact dc_130 h0
      next => exact absurd rfl hn
    | lxor =>
      dsimp only [mtI] at hn ⊢
      split at hn
      next hq => rw [if_pos hq]; subst hq; exact dc_131 h0
      next => exact absurd rfl hn
    | i2l =>
      dsimp only [mtI] at hn ⊢
      split at hn
      next hq => rw [if_pos hq]; subst hq; exact dc_133 h0
      next => exact absurd rfl hn
    | l2i =>
      dsimp only [mtI] at hn ⊢
      split at hn
      next hq => rw [if_pos hq]; subst hq; exact dc_136 h0
      next => exact absurd rfl hn
    | i2b =>
      dsimp only [mtI] at hn ⊢
      split at hn
      next hq => rw [if_pos hq]; subst hq; exact dc_145 h0
      next => exact absurd rfl hn
    | i2c =>
      dsimp only [mtI] at hn ⊢
      split at hn
      next hq => rw [if_pos hq]; subst hq; exact dc_146 h0
      next => exact absurd rfl hn
    | lcmp =>
      dsimp only [mtI] at hn ⊢
      split at hn
      next hq => rw [if_pos hq]; subst hq; exact dc_148 h0
      next => exact absurd rfl hn
    | ireturn =>
      dsimp only [mtI] at hn ⊢
      split at hn
      next hq => rw [if_pos hq]; subst hq; exact dc_172 h0
      next => exact absurd rfl hn
    | lreturn =>
      dsimp only [mtI] at hn ⊢
      split at hn
      next hq => rw [if_pos hq]; subst hq; exact dc_173 h0
      next => exact absurd rfl hn
    | areturn =>
      dsimp only [mtI] at hn ⊢
      split at hn
      next hq => rw [if_pos hq]; subst hq; exact dc_176 h0
      next => exact absurd rfl hn
    | return_ =>
      dsimp only [mtI] at hn ⊢
      split at hn
      next hq => rw [if_pos hq]; subst hq; exact dc_177 h0
      next => exact absurd rfl hn
    | arraylength =>
      dsimp only [mtI] at hn ⊢
      split at hn
      next hq => rw [if_pos hq]; subst hq; exact dc_190 h0
      next => exact absurd rfl hn
    | bipush n =>
      cases r0 with
      | nil => exact absurd rfl hn
      | cons b1 r1 =>
        have h1 : rdN code (pc + 1) = some b1 := hb 1
        dsimp only [mtI] at hn ⊢
        split at hn
        next hq => rw [if_pos hq]; obtain ⟨rfl, rfl⟩ := hq; exact dc_16 h0 h1
        next => exact absurd rfl hn
    | ldc n =>
      cases r0 with
      | nil => exact absurd rfl hn
      | cons b1 r1 =>
        have h1 : rdN code (pc + 1) = some b1 := hb 1
        dsimp only [mtI] at hn ⊢
        split at hn
        next hq => rw [if_pos hq]; obtain ⟨rfl, rfl⟩ := hq; exact dc_18 h0 h1
        next => exact absurd rfl hn
    | iload n =>
      cases r0 with
      | nil => exact absurd rfl hn
      | cons b1 r1 =>
        have h1 : rdN code (pc + 1) = some b1 := hb 1
        dsimp only [mtI] at hn ⊢
        split at hn
        next hq => rw [if_pos hq]; obtain ⟨rfl, rfl⟩ := hq; exact dc_21 h0 h1
        next => exact absurd rfl hn
    | lload n =>
      cases r0 with
      | nil => exact absurd rfl hn
      | cons b1 r1 =>
        have h1 : rdN code (pc + 1) = some b1 := hb 1
        dsimp only [mtI] at hn ⊢
        split at hn
        next hq => rw [if_pos hq]; obtain ⟨rfl, rfl⟩ := hq; exact dc_22 h0 h1
        next => exact absurd rfl hn
    | aload n =>
      cases r0 with
      | nil => exact absurd rfl hn
      | cons b1 r1 =>
        have h1 : rdN code (pc + 1) = some b1 := hb 1
        dsimp only [mtI] at hn ⊢
        split at hn
        next hq => rw [if_pos hq]; obtain ⟨rfl, rfl⟩ := hq; exact dc_25 h0 h1
        next => exact absurd rfl hn
    | istore n =>
      cases r0 with
      | nil => exact absurd rfl hn
      | cons b1 r1 =>
        have h1 : rdN code (pc + 1) = some b1 := hb 1
        dsimp only [mtI] at hn ⊢
        split at hn
        next hq => rw [if_pos hq]; obtain ⟨rfl, rfl⟩ := hq; exact dc_54 h0 h1
        next => exact absurd rfl hn
    | lstore n =>
      cases r0 with
      | nil => exact absurd rfl hn
      | cons b1 r1 =>
        have h1 : rdN code (pc + 1) = some b1 := hb 1
        dsimp only [mtI] at hn ⊢
        split at hn
        next hq => rw [if_pos hq]; obtain ⟨rfl, rfl⟩ := hq; exact dc_55 h0 h1
        next => exact absurd rfl hn
    | astore n =>
      cases r0 with
      | nil => exact absurd rfl hn
      | cons b1 r1 =>
        have h1 : rdN code (pc + 1) = some b1 := hb 1
        dsimp only [mtI] at hn ⊢
        split at hn
        next hq => rw [if_pos hq]; obtain ⟨rfl, rfl⟩ := hq; exact dc_58 h0 h1
        next => exact absurd rfl hn
    | ldc_w n =>
      cases r0 with
      | nil => exact absurd rfl hn
      | cons b1 r1 =>
        cases r1 with
        | nil => exact absurd rfl hn
        | cons b2 r2 =>
          have h1 : rdN code (pc + 1) = some b1 := hb 1
          have h2 : rdN code (pc + 1 + 1) = some b2 := hb 2
          dsimp only [mtI] at hn ⊢
          split at hn
          next hq => rw [if_pos hq]; obtain ⟨rfl, rfl⟩ := hq; exact dc_19 h0 h1 h2
          next => exact absurd rfl hn
    | ldc2_w n =>
      cases r0 with
      | nil => exact absurd rfl hn
      | cons b1 r1 =>
        cases r1 with
        | nil => exact absurd rfl hn
        | cons b2 r2 =>
          have h1 : rdN code (pc + 1) = some b1 := hb 1
          have h2 : rdN code (pc + 1 + 1) = some b2 := hb 2
          dsimp only [mtI] at hn ⊢
          split at hn
          next hq => rw [if_pos hq]; obtain ⟨rfl, rfl⟩ := hq; exact dc_20 h0 h1 h2
          next => exact absurd rfl hn
    | getstatic n =>
      cases r0 with
      | nil => exact absurd rfl hn
      | cons b1 r1 =>
        cases r1 with
        | nil => exact absurd rfl hn
        | cons b2 r2 =>
          have h1 : rdN code (pc + 1) = some b1 := hb 1
          have h2 : rdN code (pc + 1 + 1) = some b2 := hb 2
          dsimp only [mtI] at hn ⊢
          split at hn
          next hq => rw [if_pos hq]; obtain ⟨rfl, rfl⟩ := hq; exact dc_178 h0 h1 h2
          next => exact absurd rfl hn
    | putstatic n =>
      cases r0 with
      | nil => exact absurd rfl hn
      | cons b1 r1 =>
        cases r1 with
        | nil => exact absurd rfl hn
        | cons b2 r2 =>
          have h1 : rdN code (pc + 1) = some b1 := hb 1
          have h2 : rdN code (pc + 1 + 1) = some b2 := hb 2
          dsimp only [mtI] at hn ⊢
          split at hn
          next hq => rw [if_pos hq]; obtain ⟨rfl, rfl⟩ := hq; exact dc_179 h0 h1 h2
          next => exact absurd rfl hn
    | getfield n =>
      cases r0 with
      | nil => exact absurd rfl hn
      | cons b1 r1 =>
        cases r1 with
        | nil => exact absurd rfl hn
        | cons b2 r2 =>
          have h1 : rdN code (pc + 1) = some b1 := hb 1
          have h2 : rdN code (pc + 1 + 1) = some b2 := hb 2
          dsimp only [mtI] at hn ⊢
          split at hn
          next hq => rw [if_pos hq]; obtain ⟨rfl, rfl⟩ := hq; exact dc_180 h0 h1 h2
          next => exact absurd rfl hn
    | putfield n =>
      cases r0 with
      | nil => exact absurd rfl hn
      | cons b1 r1 =>
        cases r1 with
        | nil => exact absurd rfl hn
        | cons b2 r2 =>
          have h1 : rdN code (pc + 1) = some b1 := hb 1
          have h2 : rdN code (pc + 1 + 1) = some b2 := hb 2
          dsimp only [mtI] at hn ⊢
          split at hn
          next hq => rw [if_pos hq]; obtain ⟨rfl, rfl⟩ := hq; exact dc_181 h0 h1 h2
          next => exact absurd rfl hn
    | invokevirtual n =>
      cases r0 with
      | nil => exact absurd rfl hn
      | cons b1 r1 =>
        cases r1 with
        | nil => exact absurd rfl hn
        | cons b2 r2 =>
          have h1 : rdN code (pc + 1) = some b1 := hb 1
          have h2 : rdN code (pc + 1 + 1) = some b2 := hb 2
          dsimp only [mtI] at hn ⊢
          split at hn
          next hq => rw [if_pos hq]; obtain ⟨rfl, rfl⟩ := hq; exact dc_182 h0 h1 h2
          next => exact absurd rfl hn
    | invokespecial n =>
      cases r0 with
      | nil => exact absurd rfl hn
      | cons b1 r1 =>
        cases r1 with
        | nil => exact absurd rfl hn
        | cons b2 r2 =>
          have h1 : rdN code (pc + 1) = some b1 := hb 1
          have h2 : rdN code (pc + 1 + 1) = some b2 := hb 2
          dsimp only [mtI] at hn ⊢
          split at hn
          next hq => rw [if_pos hq]; obtain ⟨rfl, rfl⟩ := hq; exact dc_183 h0 h1 h2
          next => exact absurd rfl hn
    | invokestatic n =>
      cases r0 with
      | nil => exact absurd rfl hn
      | cons b1 r1 =>
        cases r1 with
        | nil => exact absurd rfl hn
        | cons b2 r2 =>
          have h1 : rdN code (pc + 1) = some b1 := hb 1
          have h2 : rdN code (pc + 1 + 1) = some b2 := hb 2
          dsimp only [mtI] at hn ⊢
          split at hn
          next hq => rw [if_pos hq]; obtain ⟨rfl, rfl⟩ := hq; exact dc_184 h0 h1 h2
          next => exact absurd rfl hn
    | new n =>
      cases r0 with
      | nil => exact absurd rfl hn
      | cons b1 r1 =>
        cases r1 with
        | nil => exact absurd rfl hn
        | cons b2 r2 =>
          have h1 : rdN code (pc + 1) = some b1 := hb 1
          have h2 : rdN code (pc + 1 + 1) = some b2 := hb 2
          dsimp only [mtI] at hn ⊢
          split at hn
          next hq => rw [if_pos hq]; obtain ⟨rfl, rfl⟩ := hq; exact dc_187 h0 h1 h2
          next => exact absurd rfl hn
    | anewarray n =>
      cases r0 with
      | nil => exact absurd rfl hn
      | cons b1 r1 =>
        cases r1 with
        | nil => exact absurd rfl hn
        | cons b2 r2 =>
          have h1 : rdN code (pc + 1) = some b1 := hb 1
          have h2 : rdN code (pc + 1 + 1) = some b2 := hb 2
          dsimp only [mtI] at hn ⊢
          split at hn
          next hq => rw [if_pos hq]; obtain ⟨rfl, rfl⟩ := hq; exact dc_189 h0 h1 h2
          next => exact absurd rfl hn
    | checkcast n =>
      cases r0 with
      | nil => exact absurd rfl hn
      | cons b1 r1 =>
        cases r1 with
        | nil => exact absurd rfl hn
        | cons b2 r2 =>
          have h1 : rdN code (pc + 1) = some b1 := hb 1
          have h2 : rdN code (pc + 1 + 1) = some b2 := hb 2
          dsimp only [mtI] at hn ⊢
          split at hn
          next hq => rw [if_pos hq]; obtain ⟨rfl, rfl⟩ := hq; exact dc_192 h0 h1 h2
          next => exact absurd rfl hn
    | instanceof n =>
      cases r0 with
      | nil => exact absurd rfl hn
      | cons b1 r1 =>
        cases r1 with
        | nil => exact absurd rfl hn
        | cons b2 r2 =>
          have h1 : rdN code (pc + 1) = some b1 := hb 1
          have h2 : rdN code (pc + 1 + 1) = some b2 := hb 2
          dsimp only [mtI] at hn ⊢
          split at hn
          next hq => rw [if_pos hq]; obtain ⟨rfl, rfl⟩ := hq; exact dc_193 h0 h1 h2
          next => exact absurd rfl hn
    | sipush n =>
      cases r0 with
      | nil => exact absurd rfl hn
      | cons b1 r1 =>
        cases r1 with
        | nil => exact absurd rfl hn
        | cons b2 r2 =>
          have h1 : rdN code (pc + 1) = some b1 := hb 1
          have h2 : rdN code (pc + 1 + 1) = some b2 := hb 2
          dsimp only [mtI] at hn ⊢
          split at hn
          next hq => rw [if_pos hq]; obtain ⟨rfl, rfl⟩ := hq; exact dc_17 h0 h1 h2
          next => exact absurd rfl hn
    | goto n =>
      cases r0 with
      | nil => exact absurd rfl hn
      | cons b1 r1 =>
        cases r1 with
        | nil => exact absurd rfl hn
        | cons b2 r2 =>
          have h1 : rdN code (pc + 1) = some b1 := hb 1
          have h2 : rdN code (pc + 1 + 1) = some b2 := hb 2
          dsimp only [mtI] at hn ⊢
          split at hn
          next hq => rw [if_pos hq]; obtain ⟨rfl, rfl⟩ := hq; exact dc_167 h0 h1 h2
          next => exact absurd rfl hn
    | ifnull n =>
      cases r0 with
      | nil => exact absurd rfl hn
      | cons b1 r1 =>
        cases r1 with
        | nil => exact absurd rfl hn
        | cons b2 r2 =>
          have h1 : rdN code (pc + 1) = some b1 := hb 1
          have h2 : rdN code (pc + 1 + 1) = some b2 := hb 2
          dsimp only [mtI] at hn ⊢
          split at hn
          next hq => rw [if_pos hq]; obtain ⟨rfl, rfl⟩ := hq; exact dc_198 h0 h1 h2
          next => exact absurd rfl hn
    | ifnonnull n =>
      cases r0 with
      | nil => exact absurd rfl hn
      | cons b1 r1 =>
        cases r1 with
        | nil => exact absurd rfl hn
        | cons b2 r2 =>
          have h1 : rdN code (pc + 1) = some b1 := hb 1
          have h2 : rdN code (pc + 1 + 1) = some b2 := hb 2
          dsimp only [mtI] at hn ⊢
          split at hn
          next hq => rw [if_pos hq]; obtain ⟨rfl, rfl⟩ := hq; exact dc_199 h0 h1 h2
          next => exact absurd rfl hn
    | ifCond c n =>
      cases r0 with
      | nil => (try cases c) <;> exact absurd rfl hn
      | cons b1 r1 =>
        cases r1 with
        | nil => (try cases c) <;> exact absurd rfl hn
        | cons b2 r2 =>
          have h1 : rdN code (pc + 1) = some b1 := hb 1
          have h2 : rdN code (pc + 1 + 1) = some b2 := hb 2
          cases c with
          | eq =>
            dsimp only [mtI] at hn ⊢
            split at hn
            next hq => rw [if_pos hq]; obtain ⟨rfl, rfl⟩ := hq; exact dc_153 h0 h1 h2
            next => exact absurd rfl hn
          | ne =>
            dsimp only [mtI] at hn ⊢
            split at hn
            next hq => rw [if_pos hq]; obtain ⟨rfl, rfl⟩ := hq; exact dc_154 h0 h1 h2
            next => exact absurd rfl hn
          | lt =>
            dsimp only [mtI] at hn ⊢
            split at hn
            next hq => rw [if_pos hq]; obtain ⟨rfl, rfl⟩ := hq; exact dc_155 h0 h1 h2
            next => exact absurd rfl hn
          | ge =>
            dsimp only [mtI] at hn ⊢
            split at hn
            next hq => rw [if_pos hq]; obtain ⟨rfl, rfl⟩ := hq; exact dc_156 h0 h1 h2
            next => exact absurd rfl hn
          | gt =>
            dsimp only [mtI] at hn ⊢
            split at hn
            next hq => rw [if_pos hq]; obtain ⟨rfl, rfl⟩ := hq; exact dc_157 h0 h1 h2
            next => exact absurd rfl hn
          | le =>
            dsimp only [mtI] at hn ⊢
            split at hn
            next hq => rw [if_pos hq]; obtain ⟨rfl, rfl⟩ := hq; exact dc_158 h0 h1 h2
            next => exact absurd rfl hn
    | if_icmp c n =>
      cases r0 with
      | nil => (try cases c) <;> exact absurd rfl hn
      | cons b1 r1 =>
        cases r1 with
        | nil => (try cases c) <;> exact absurd rfl hn
        | cons b2 r2 =>
          have h1 : rdN code (pc + 1) = some b1 := hb 1
          have h2 : rdN code (pc + 1 + 1) = some b2 := hb 2
          cases c with
          | eq =>
            dsimp only [mtI] at hn ⊢
            split at hn
            next hq => rw [if_pos hq]; obtain ⟨rfl, rfl⟩ := hq; exact dc_159 h0 h1 h2
            next => exact absurd rfl hn
          | ne =>
            dsimp only [mtI] at hn ⊢
            split at hn
            next hq => rw [if_pos hq]; obtain ⟨rfl, rfl⟩ := hq; exact dc_160 h0 h1 h2
            next => exact absurd rfl hn
          | lt =>
            dsimp only [mtI] at hn ⊢
            split at hn
            next hq => rw [if_pos hq]; obtain ⟨rfl, rfl⟩ := hq; exact dc_161 h0 h1 h2
            next => exact absurd rfl hn
          | ge =>
            dsimp only [mtI] at hn ⊢
            split at hn
            next hq => rw [if_pos hq]; obtain ⟨rfl, rfl⟩ := hq; exact dc_162 h0 h1 h2
            next => exact absurd rfl hn
          | gt =>
            dsimp only [mtI] at hn ⊢
            split at hn
            next hq => rw [if_pos hq]; obtain ⟨rfl, rfl⟩ := hq; exact dc_163 h0 h1 h2
            next => exact absurd rfl hn
          | le =>
            dsimp only [mtI] at hn ⊢
            split at hn
            next hq => rw [if_pos hq]; obtain ⟨rfl, rfl⟩ := hq; exact dc_164 h0 h1 h2
            next => exact absurd rfl hn
    | if_acmp c n =>
      cases r0 with
      | nil => (try cases c) <;> exact absurd rfl hn
      | cons b1 r1 =>
        cases r1 with
        | nil => (try cases c) <;> exact absurd rfl hn
        | cons b2 r2 =>
          have h1 : rdN code (pc + 1) = some b1 := hb 1
          have h2 : rdN code (pc + 1 + 1) = some b2 := hb 2
          cases c with
          | eq =>
            dsimp only [mtI] at hn ⊢
            split at hn
            next hq => rw [if_pos hq]; obtain ⟨rfl, rfl⟩ := hq; exact dc_165 h0 h1 h2
            next => exact absurd rfl hn
          | ne =>
            dsimp only [mtI] at hn ⊢
            split at hn
            next hq => rw [if_pos hq]; obtain ⟨rfl, rfl⟩ := hq; exact dc_166 h0 h1 h2
            next => exact absurd rfl hn
    | iinc n d =>
      cases r0 with
      | nil => exact absurd rfl hn
      | cons b1 r1 =>
        cases r1 with
        | nil => exact absurd rfl hn
        | cons b2 r2 =>
          have h1 : rdN code (pc + 1) = some b1 := hb 1
          have h2 : rdN code (pc + 1 + 1) = some b2 := hb 2
          dsimp only [mtI] at hn ⊢
          split at hn
          next hq => rw [if_pos hq]; obtain ⟨rfl, rfl, rfl⟩ := hq; exact dc_132 h0 h1 h2
          next => exact absurd rfl hn
    | _ =>
      exfalso
      apply hn
      cases r0 with
      | nil => rfl
      | cons b1 r1 =>
        cases r1 with
        | nil => rfl
        | cons b2 r2 => rfl
