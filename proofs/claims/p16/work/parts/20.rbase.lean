/-- a state of the reference: its ints, its longs, its rows of ints (and booleans), its rows of longs, by the number of the field -/
abbrev RS : Type := (Nat → Int32) × (Nat → Int64) × (Nat → Nat → Int32) × (Nat → Nat → Int64)
def gI (σ : RS) (k : Nat) : Int32 := σ.1 k
def gL (σ : RS) (k : Nat) : Int64 := σ.2.1 k
def aI (σ : RS) (k : Nat) : Nat → Int32 := σ.2.2.1 k
def aL (σ : RS) (k : Nat) : Nat → Int64 := σ.2.2.2 k
def sI (σ : RS) (k : Nat) (v : Int32) : RS := (fun j => if j = k then v else σ.1 j, σ.2.1, σ.2.2.1, σ.2.2.2)
def sL (σ : RS) (k : Nat) (v : Int64) : RS := (σ.1, fun j => if j = k then v else σ.2.1 j, σ.2.2.1, σ.2.2.2)
def sA (σ : RS) (k : Nat) (f : Nat → Int32) : RS := (σ.1, σ.2.1, fun j => if j = k then f else σ.2.2.1 j, σ.2.2.2)
def sM (σ : RS) (k : Nat) (f : Nat → Int64) : RS := (σ.1, σ.2.1, σ.2.2.1, fun j => if j = k then f else σ.2.2.2 j)
set_option maxRecDepth 20000 in
def fR (ad : Nat → Nat) (σ : RS) : List Value := [.ref (ad 0), .int (gI σ 1), .int (gI σ 2), .ref (ad 3), .ref (ad 4), .ref (ad 5), .ref (ad 6), .ref (ad 7), .ref (ad 8), .ref (ad 9), .ref (ad 10), .ref (ad 11), .int (gI σ 12), .int (gI σ 13), .int (gI σ 14), .int (gI σ 15), .int (gI σ 16), .int (gI σ 17), .int (gI σ 18), .ref (ad 19), .ref (ad 20), .ref (ad 21), .ref (ad 22), .ref (ad 23), .ref (ad 24), .ref (ad 25), .ref (ad 26), .ref (ad 27), .ref (ad 28), .int (gI σ 29), .ref (ad 30), .int (gI σ 31), .int (gI σ 32), .int (gI σ 33), .int (gI σ 34), .int (gI σ 35), .int (gI σ 36), .ref (ad 37), .ref (ad 38), .ref (ad 39), .ref (ad 40), .ref (ad 41), .int (gI σ 42), .ref (ad 43), .ref (ad 44), .ref (ad 45), .ref (ad 46), .ref (ad 47), .ref (ad 48), .int (gI σ 49), .ref (ad 50), .ref (ad 51), .ref (ad 52), .ref (ad 53), .ref (ad 54), .ref (ad 55), .ref (ad 56), .ref (ad 57), .ref (ad 58), .ref (ad 59), .ref (ad 60), .ref (ad 61), .int (gI σ 62), .ref (ad 63), .ref (ad 64), .ref (ad 65), .int (gI σ 66), .int (gI σ 67), .int (gI σ 68), .int (gI σ 69), .ref (ad 70), .ref (ad 71), .ref (ad 72), .ref (ad 73), .int (gI σ 74), .ref (ad 75), .ref (ad 76), .ref (ad 77), .ref (ad 78), .ref (ad 79), .ref (ad 80), .ref (ad 81), .ref (ad 82), .ref (ad 83), .ref (ad 84), .ref (ad 85), .ref (ad 86), .ref (ad 87), .ref (ad 88), .int (gI σ 89), .ref (ad 90), .int (gI σ 91), .int (gI σ 92), .long (gL σ 93), .long (gL σ 94), .ref (ad 95), .ref (ad 96), .ref (ad 97), .ref (ad 98), .ref (ad 99), .int (gI σ 100), .ref (ad 101), .ref (ad 102), .int (gI σ 103), .ref (ad 104), .ref (ad 105), .ref (ad 106), .ref (ad 107), .ref (ad 108), .ref (ad 109), .ref (ad 110), .ref (ad 111), .int (gI σ 112), .int (gI σ 113), .int (gI σ 114), .int (gI σ 115), .int (gI σ 116), .int (gI σ 117), .ref (ad 118), .int (gI σ 119), .int (gI σ 120), .int (gI σ 121), .ref (ad 122), .int (gI σ 123), .ref (ad 124), .ref (ad 125), .ref (ad 126), .ref (ad 127), .int (gI σ 128), .int (gI σ 129), .ref (ad 130), .ref (ad 131), .ref (ad 132), .int (gI σ 133), .ref (ad 134), .ref (ad 135), .ref (ad 136), .ref (ad 137), .ref (ad 138), .ref (ad 139), .ref (ad 140), .int (gI σ 141), .int (gI σ 142), .long (gL σ 143), .int (gI σ 144), .int (gI σ 145), .int (gI σ 146), .int (gI σ 147), .int (gI σ 148), .ref (ad 149)]
set_option maxRecDepth 20000 in
def RW (h : Nat) (ad : Nat → Nat) (cA : Nat → ClassId) (σ : RS) : va_W := [(h, .inr (13, fR ad σ)), (ad 0, .inl (cA 0, (2500, .inl (aI σ 0)))), (ad 3, .inl (cA 3, (2600, .inl (aI σ 3)))), (ad 4, .inl (cA 4, (2600, .inl (aI σ 4)))), (ad 5, .inl (cA 5, (2600, .inl (aI σ 5)))), (ad 6, .inl (cA 6, (2600, .inl (aI σ 6)))), (ad 7, .inl (cA 7, (2600, .inr (.inl (aL σ 7))))), (ad 8, .inl (cA 8, (2600, .inl (aI σ 8)))), (ad 9, .inl (cA 9, (2600, .inr (.inl (aL σ 9))))), (ad 10, .inl (cA 10, (2600, .inl (aI σ 10)))), (ad 11, .inl (cA 11, (2600, .inl (aI σ 11)))), (ad 19, .inl (cA 19, (4000, .inl (aI σ 19)))), (ad 20, .inl (cA 20, (4000, .inl (aI σ 20)))), (ad 21, .inl (cA 21, (4000, .inl (aI σ 21)))), (ad 22, .inl (cA 22, (4000, .inl (aI σ 22)))), (ad 23, .inl (cA 23, (4000, .inl (aI σ 23)))), (ad 24, .inl (cA 24, (4000, .inl (aI σ 24)))), (ad 25, .inl (cA 25, (600, .inl (aI σ 25)))), (ad 26, .inl (cA 26, (600, .inl (aI σ 26)))), (ad 27, .inl (cA 27, (600, .inl (aI σ 27)))), (ad 28, .inl (cA 28, (600, .inl (aI σ 28)))), (ad 30, .inl (cA 30, (600, .inl (aI σ 30)))), (ad 37, .inl (cA 37, (16, .inl (aI σ 37)))), (ad 38, .inl (cA 38, (16, .inl (aI σ 38)))), (ad 39, .inl (cA 39, (16, .inl (aI σ 39)))), (ad 40, .inl (cA 40, (16, .inl (aI σ 40)))), (ad 41, .inl (cA 41, (16, .inl (aI σ 41)))), (ad 43, .inl (cA 43, (64, .inl (aI σ 43)))), (ad 44, .inl (cA 44, (64, .inl (aI σ 44)))), (ad 45, .inl (cA 45, (64, .inl (aI σ 45)))), (ad 46, .inl (cA 46, (64, .inl (aI σ 46)))), (ad 47, .inl (cA 47, (64, .inl (aI σ 47)))), (ad 48, .inl (cA 48, (64, .inl (aI σ 48)))), (ad 50, .inl (cA 50, (600, .inl (aI σ 50)))), (ad 51, .inl (cA 51, (600, .inl (aI σ 51)))), (ad 52, .inl (cA 52, (600, .inl (aI σ 52)))), (ad 53, .inl (cA 53, (600, .inl (aI σ 53)))), (ad 54, .inl (cA 54, (600, .inl (aI σ 54)))), (ad 55, .inl (cA 55, (600, .inl (aI σ 55)))), (ad 56, .inl (cA 56, (600, .inl (aI σ 56)))), (ad 57, .inl (cA 57, (600, .inl (aI σ 57)))), (ad 58, .inl (cA 58, (600, .inl (aI σ 58)))), (ad 59, .inl (cA 59, (600, .inl (aI σ 59)))), (ad 60, .inl (cA 60, (600, .inl (aI σ 60)))), (ad 61, .inl (cA 61, (600, .inl (aI σ 61)))), (ad 63, .inl (cA 63, (80, .inl (aI σ 63)))), (ad 64, .inl (cA 64, (80, .inl (aI σ 64)))), (ad 65, .inl (cA 65, (80, .inl (aI σ 65)))), (ad 70, .inl (cA 70, (700, .inl (aI σ 70)))), (ad 71, .inl (cA 71, (700, .inl (aI σ 71)))), (ad 72, .inl (cA 72, (700, .inr (.inl (aL σ 72))))), (ad 73, .inl (cA 73, (700, .inl (aI σ 73)))), (ad 75, .inl (cA 75, (2000, .inl (aI σ 75)))), (ad 76, .inl (cA 76, (2000, .inl (aI σ 76)))), (ad 77, .inl (cA 77, (2000, .inl (aI σ 77)))), (ad 78, .inl (cA 78, (2000, .inl (aI σ 78)))), (ad 79, .inl (cA 79, (2000, .inr (.inl (aL σ 79))))), (ad 80, .inl (cA 80, (2600, .inl (aI σ 80)))), (ad 81, .inl (cA 81, (4000, .inl (aI σ 81)))), (ad 82, .inl (cA 82, (4000, .inl (aI σ 82)))), (ad 83, .inl (cA 83, (4000, .inl (aI σ 83)))), (ad 84, .inl (cA 84, (4000, .inl (aI σ 84)))), (ad 85, .inl (cA 85, (4000, .inr (.inl (aL σ 85))))), (ad 86, .inl (cA 86, (64, .inl (aI σ 86)))), (ad 87, .inl (cA 87, (64, .inr (.inl (aL σ 87))))), (ad 88, .inl (cA 88, (600, .inl (aI σ 88)))), (ad 90, .inl (cA 90, (80, .inl (aI σ 90)))), (ad 95, .inl (cA 95, (600, .inl (aI σ 95)))), (ad 96, .inl (cA 96, (600, .inr (.inl (aL σ 96))))), (ad 97, .inl (cA 97, (600, .inl (aI σ 97)))), (ad 98, .inl (cA 98, (600, .inr (.inl (aL σ 98))))), (ad 99, .inl (cA 99, (600, .inr (.inl (aL σ 99))))), (ad 101, .inl (cA 101, (300, .inr (.inl (aL σ 101))))), (ad 102, .inl (cA 102, (300, .inr (.inl (aL σ 102))))), (ad 104, .inl (cA 104, (600, .inl (aI σ 104)))), (ad 105, .inl (cA 105, (600, .inl (aI σ 105)))), (ad 106, .inl (cA 106, (600, .inl (aI σ 106)))), (ad 107, .inl (cA 107, (600, .inl (aI σ 107)))), (ad 108, .inl (cA 108, (600, .inr (.inl (aL σ 108))))), (ad 109, .inl (cA 109, (2600, .inl (aI σ 109)))), (ad 110, .inl (cA 110, (2600, .inr (.inl (aL σ 110))))), (ad 111, .inl (cA 111, (2600, .inl (aI σ 111)))), (ad 118, .inl (cA 118, (2500, .inl (aI σ 118)))), (ad 122, .inl (cA 122, (40, .inl (aI σ 122)))), (ad 124, .inl (cA 124, (6, .inr (.inl (aL σ 124))))), (ad 125, .inl (cA 125, (4000, .inl (aI σ 125)))), (ad 126, .inl (cA 126, (300, .inl (aI σ 126)))), (ad 127, .inl (cA 127, (8000, .inr (.inl (aL σ 127))))), (ad 130, .inl (cA 130, (1860, .inr (.inl (aL σ 130))))), (ad 131, .inl (cA 131, (31, .inl (aI σ 131)))), (ad 132, .inl (cA 132, (31, .inl (aI σ 132)))), (ad 134, .inl (cA 134, (2000, .inl (aI σ 134)))), (ad 135, .inl (cA 135, (2000, .inl (aI σ 135)))), (ad 136, .inl (cA 136, (2000, .inl (aI σ 136)))), (ad 137, .inl (cA 137, (2000, .inl (aI σ 137)))), (ad 138, .inl (cA 138, (2000, .inl (aI σ 138)))), (ad 139, .inl (cA 139, (2000, .inl (aI σ 139)))), (ad 140, .inl (cA 140, (2000, .inr (.inl (aL σ 140))))), (ad 149, .inl (cA 149, (200, .inr (.inl (aL σ 149)))))]
set_option maxRecDepth 20000 in
def RT (cA : Nat → ClassId) : List (ClassId × FieldType) := [(cA 0, .int), (cA 3, .int), (cA 4, .int), (cA 5, .int), (cA 6, .int), (cA 7, .long), (cA 8, .int), (cA 9, .long), (cA 10, .boolean), (cA 11, .int), (cA 19, .int), (cA 20, .int), (cA 21, .int), (cA 22, .int), (cA 23, .int), (cA 24, .int), (cA 25, .int), (cA 26, .int), (cA 27, .int), (cA 28, .int), (cA 30, .int), (cA 37, .int), (cA 38, .int), (cA 39, .int), (cA 40, .int), (cA 41, .int), (cA 43, .int), (cA 44, .int), (cA 45, .boolean), (cA 46, .int), (cA 47, .int), (cA 48, .int), (cA 50, .int), (cA 51, .int), (cA 52, .int), (cA 53, .int), (cA 54, .int), (cA 55, .int), (cA 56, .int), (cA 57, .int), (cA 58, .int), (cA 59, .int), (cA 60, .int), (cA 61, .int), (cA 63, .int), (cA 64, .int), (cA 65, .int), (cA 70, .int), (cA 71, .boolean), (cA 72, .long), (cA 73, .int), (cA 75, .int), (cA 76, .int), (cA 77, .int), (cA 78, .boolean), (cA 79, .long), (cA 80, .int), (cA 81, .int), (cA 82, .int), (cA 83, .int), (cA 84, .boolean), (cA 85, .long), (cA 86, .boolean), (cA 87, .long), (cA 88, .int), (cA 90, .int), (cA 95, .boolean), (cA 96, .long), (cA 97, .boolean), (cA 98, .long), (cA 99, .long), (cA 101, .long), (cA 102, .long), (cA 104, .int), (cA 105, .boolean), (cA 106, .int), (cA 107, .boolean), (cA 108, .long), (cA 109, .boolean), (cA 110, .long), (cA 111, .boolean), (cA 118, .int), (cA 122, .int), (cA 124, .long), (cA 125, .int), (cA 126, .int), (cA 127, .long), (cA 130, .long), (cA 131, .int), (cA 132, .int), (cA 134, .int), (cA 135, .int), (cA 136, .int), (cA 137, .int), (cA 138, .int), (cA 139, .int), (cA 140, .long), (cA 149, .long)]
def rPre (D : va_G) (h : Nat) (ad : Nat → Nat) (cA : Nat → ClassId) (σ : RS) (sz : Nat) (U : State) : Prop := U.heap.size = sz ∧ va_P D vwCl (RW h ad cA σ) U.heap ∧ va_K D vwCl (RT cA) U ∧ va_D (fun _ => True) (RW h ad cA σ)
def rPost (D : va_G) (h : Nat) (ad : Nat → Nat) (cA : Nat → ClassId) (σ : RS) (sz : Nat) (τ : RS) (t : State) : Prop := va_P D vwCl (RW h ad cA τ) t.heap ∧ va_K D vwCl (RT cA) t ∧ va_D (va_A (RW h ad cA σ) sz) (RW h ad cA τ)
theorem va_freeAll {A0 : Nat → Prop} {ws : va_W} {H0 H : Heap} {locs : List Loc} (hD : va_D A0 ws) (hS : va_S A0 H0 H locs) (hA : ∀ q, H0.size ≤ q → A0 q) : ∀ q, va_A ws H.size q → A0 q := by
  intro q h
  rcases h with ⟨k, e, h⟩ | h
  · exact hD.2 k _ h
  · exact hA q (Nat.le_trans hS.1 h)
theorem sI_sI {σ : RS} {k : Nat} {a b : Int32} : sI (sI σ k a) k b = sI σ k b := Prod.ext (funext fun j => by by_cases h : j = k <;> simp [sI, h]) (Prod.ext (rfl) (Prod.ext (rfl) (rfl)))
theorem sI_cm {σ : RS} {k i : Nat} {a b : Int32} (hlt : i < k) : sI (sI σ k a) i b = sI (sI σ i b) k a := Prod.ext (funext fun j => by by_cases h : j = i <;> by_cases h2 : j = k <;> simp [sI, h, h2] <;> omega) (Prod.ext (rfl) (Prod.ext (rfl) (rfl)))
theorem sI_self {σ : RS} {k : Nat} : sI σ k (gI σ k) = σ := Prod.ext (funext fun j => by by_cases h : j = k <;> simp [sI, gI, h]) (Prod.ext (rfl) (Prod.ext (rfl) (rfl)))
theorem sL_sL {σ : RS} {k : Nat} {a b : Int64} : sL (sL σ k a) k b = sL σ k b := Prod.ext (rfl) (Prod.ext (funext fun j => by by_cases h : j = k <;> simp [sL, h]) (Prod.ext (rfl) (rfl)))
theorem sL_cm {σ : RS} {k i : Nat} {a b : Int64} (hlt : i < k) : sL (sL σ k a) i b = sL (sL σ i b) k a := Prod.ext (rfl) (Prod.ext (funext fun j => by by_cases h : j = i <;> by_cases h2 : j = k <;> simp [sL, h, h2] <;> omega) (Prod.ext (rfl) (rfl)))
theorem sL_self {σ : RS} {k : Nat} : sL σ k (gL σ k) = σ := Prod.ext (rfl) (Prod.ext (funext fun j => by by_cases h : j = k <;> simp [sL, gL, h]) (Prod.ext (rfl) (rfl)))
theorem sA_sA {σ : RS} {k : Nat} {a b : Nat → Int32} : sA (sA σ k a) k b = sA σ k b := Prod.ext (rfl) (Prod.ext (rfl) (Prod.ext (funext fun j => by by_cases h : j = k <;> simp [sA, h]) (rfl)))
theorem sA_cm {σ : RS} {k i : Nat} {a b : Nat → Int32} (hlt : i < k) : sA (sA σ k a) i b = sA (sA σ i b) k a := Prod.ext (rfl) (Prod.ext (rfl) (Prod.ext (funext fun j => by by_cases h : j = i <;> by_cases h2 : j = k <;> simp [sA, h, h2] <;> omega) (rfl)))
theorem sA_self {σ : RS} {k : Nat} : sA σ k (aI σ k) = σ := Prod.ext (rfl) (Prod.ext (rfl) (Prod.ext (funext fun j => by by_cases h : j = k <;> simp [sA, aI, h]) (rfl)))
theorem sM_sM {σ : RS} {k : Nat} {a b : Nat → Int64} : sM (sM σ k a) k b = sM σ k b := Prod.ext (rfl) (Prod.ext (rfl) (Prod.ext (rfl) (funext fun j => by by_cases h : j = k <;> simp [sM, h])))
theorem sM_cm {σ : RS} {k i : Nat} {a b : Nat → Int64} (hlt : i < k) : sM (sM σ k a) i b = sM (sM σ i b) k a := Prod.ext (rfl) (Prod.ext (rfl) (Prod.ext (rfl) (funext fun j => by by_cases h : j = i <;> by_cases h2 : j = k <;> simp [sM, h, h2] <;> omega)))
theorem sM_self {σ : RS} {k : Nat} : sM σ k (aL σ k) = σ := Prod.ext (rfl) (Prod.ext (rfl) (Prod.ext (rfl) (funext fun j => by by_cases h : j = k <;> simp [sM, aL, h])))
theorem sI_sL {σ : RS} {k i : Nat} {a : Int64} {b : Int32} : sI (sL σ k a) i b = sL (sI σ i b) k a := rfl
theorem sI_sA {σ : RS} {k i : Nat} {a : Nat → Int32} {b : Int32} : sI (sA σ k a) i b = sA (sI σ i b) k a := rfl
theorem sI_sM {σ : RS} {k i : Nat} {a : Nat → Int64} {b : Int32} : sI (sM σ k a) i b = sM (sI σ i b) k a := rfl
theorem sL_sA {σ : RS} {k i : Nat} {a : Nat → Int32} {b : Int64} : sL (sA σ k a) i b = sA (sL σ i b) k a := rfl
theorem sL_sM {σ : RS} {k i : Nat} {a : Nat → Int64} {b : Int64} : sL (sM σ k a) i b = sM (sL σ i b) k a := rfl
theorem sA_sM {σ : RS} {k i : Nat} {a : Nat → Int64} {b : Nat → Int32} : sA (sM σ k a) i b = sM (sA σ i b) k a := rfl
set_option maxRecDepth 20000 in
theorem RWa_0 {h : Nat} {ad : Nat → Nat} {cA : Nat → ClassId} {σ : RS} {f : Nat → Int32} : (RW h ad cA σ).set 1 (ad 0, .inl (cA 0, (2500, .inl f))) = RW h ad cA (sA σ 0 f) := rfl
set_option maxRecDepth 20000 in
theorem RWf_1 {h : Nat} {ad : Nat → Nat} {cA : Nat → ClassId} {σ : RS} {x : Int32} : (RW h ad cA σ).set 0 (h, .inr (13, (fR ad σ).set 1 (.int x))) = RW h ad cA (sI σ 1 x) := rfl
set_option maxRecDepth 20000 in
theorem RWf_2 {h : Nat} {ad : Nat → Nat} {cA : Nat → ClassId} {σ : RS} {x : Int32} : (RW h ad cA σ).set 0 (h, .inr (13, (fR ad σ).set 2 (.int x))) = RW h ad cA (sI σ 2 x) := rfl
set_option maxRecDepth 20000 in
theorem RWa_3 {h : Nat} {ad : Nat → Nat} {cA : Nat → ClassId} {σ : RS} {f : Nat → Int32} : (RW h ad cA σ).set 2 (ad 3, .inl (cA 3, (2600, .inl f))) = RW h ad cA (sA σ 3 f) := rfl
set_option maxRecDepth 20000 in
theorem RWa_4 {h : Nat} {ad : Nat → Nat} {cA : Nat → ClassId} {σ : RS} {f : Nat → Int32} : (RW h ad cA σ).set 3 (ad 4, .inl (cA 4, (2600, .inl f))) = RW h ad cA (sA σ 4 f) := rfl
set_option maxRecDepth 20000 in
theorem RWa_5 {h : Nat} {ad : Nat → Nat} {cA : Nat → ClassId} {σ : RS} {f : Nat → Int32} : (RW h ad cA σ).set 4 (ad 5, .inl (cA 5, (2600, .inl f))) = RW h ad cA (sA σ 5 f) := rfl
set_option maxRecDepth 20000 in
theorem RWa_6 {h : Nat} {ad : Nat → Nat} {cA : Nat → ClassId} {σ : RS} {f : Nat → Int32} : (RW h ad cA σ).set 5 (ad 6, .inl (cA 6, (2600, .inl f))) = RW h ad cA (sA σ 6 f) := rfl
set_option maxRecDepth 20000 in
theorem RWa_7 {h : Nat} {ad : Nat → Nat} {cA : Nat → ClassId} {σ : RS} {f : Nat → Int64} : (RW h ad cA σ).set 6 (ad 7, .inl (cA 7, (2600, .inr (.inl f)))) = RW h ad cA (sM σ 7 f) := rfl
set_option maxRecDepth 20000 in
theorem RWa_8 {h : Nat} {ad : Nat → Nat} {cA : Nat → ClassId} {σ : RS} {f : Nat → Int32} : (RW h ad cA σ).set 7 (ad 8, .inl (cA 8, (2600, .inl f))) = RW h ad cA (sA σ 8 f) := rfl
set_option maxRecDepth 20000 in
theorem RWa_9 {h : Nat} {ad : Nat → Nat} {cA : Nat → ClassId} {σ : RS} {f : Nat → Int64} : (RW h ad cA σ).set 8 (ad 9, .inl (cA 9, (2600, .inr (.inl f)))) = RW h ad cA (sM σ 9 f) := rfl
set_option maxRecDepth 20000 in
theorem RWa_10 {h : Nat} {ad : Nat → Nat} {cA : Nat → ClassId} {σ : RS} {f : Nat → Int32} : (RW h ad cA σ).set 9 (ad 10, .inl (cA 10, (2600, .inl f))) = RW h ad cA (sA σ 10 f) := rfl
set_option maxRecDepth 20000 in
theorem RWa_11 {h : Nat} {ad : Nat → Nat} {cA : Nat → ClassId} {σ : RS} {f : Nat → Int32} : (RW h ad cA σ).set 10 (ad 11, .inl (cA 11, (2600, .inl f))) = RW h ad cA (sA σ 11 f) := rfl
set_option maxRecDepth 20000 in
theorem RWf_12 {h : Nat} {ad : Nat → Nat} {cA : Nat → ClassId} {σ : RS} {x : Int32} : (RW h ad cA σ).set 0 (h, .inr (13, (fR ad σ).set 12 (.int x))) = RW h ad cA (sI σ 12 x) := rfl
set_option maxRecDepth 20000 in
theorem RWf_13 {h : Nat} {ad : Nat → Nat} {cA : Nat → ClassId} {σ : RS} {x : Int32} : (RW h ad cA σ).set 0 (h, .inr (13, (fR ad σ).set 13 (.int x))) = RW h ad cA (sI σ 13 x) := rfl
set_option maxRecDepth 20000 in
theorem RWf_14 {h : Nat} {ad : Nat → Nat} {cA : Nat → ClassId} {σ : RS} {x : Int32} : (RW h ad cA σ).set 0 (h, .inr (13, (fR ad σ).set 14 (.int x))) = RW h ad cA (sI σ 14 x) := rfl
set_option maxRecDepth 20000 in
theorem RWf_15 {h : Nat} {ad : Nat → Nat} {cA : Nat → ClassId} {σ : RS} {x : Int32} : (RW h ad cA σ).set 0 (h, .inr (13, (fR ad σ).set 15 (.int x))) = RW h ad cA (sI σ 15 x) := rfl
set_option maxRecDepth 20000 in
theorem RWf_16 {h : Nat} {ad : Nat → Nat} {cA : Nat → ClassId} {σ : RS} {x : Int32} : (RW h ad cA σ).set 0 (h, .inr (13, (fR ad σ).set 16 (.int x))) = RW h ad cA (sI σ 16 x) := rfl
set_option maxRecDepth 20000 in
theorem RWf_17 {h : Nat} {ad : Nat → Nat} {cA : Nat → ClassId} {σ : RS} {x : Int32} : (RW h ad cA σ).set 0 (h, .inr (13, (fR ad σ).set 17 (.int x))) = RW h ad cA (sI σ 17 x) := rfl
set_option maxRecDepth 20000 in
theorem RWf_18 {h : Nat} {ad : Nat → Nat} {cA : Nat → ClassId} {σ : RS} {x : Int32} : (RW h ad cA σ).set 0 (h, .inr (13, (fR ad σ).set 18 (.int x))) = RW h ad cA (sI σ 18 x) := rfl
set_option maxRecDepth 20000 in
theorem RWa_19 {h : Nat} {ad : Nat → Nat} {cA : Nat → ClassId} {σ : RS} {f : Nat → Int32} : (RW h ad cA σ).set 11 (ad 19, .inl (cA 19, (4000, .inl f))) = RW h ad cA (sA σ 19 f) := rfl
set_option maxRecDepth 20000 in
theorem RWa_20 {h : Nat} {ad : Nat → Nat} {cA : Nat → ClassId} {σ : RS} {f : Nat → Int32} : (RW h ad cA σ).set 12 (ad 20, .inl (cA 20, (4000, .inl f))) = RW h ad cA (sA σ 20 f) := rfl
set_option maxRecDepth 20000 in
theorem RWa_21 {h : Nat} {ad : Nat → Nat} {cA : Nat → ClassId} {σ : RS} {f : Nat → Int32} : (RW h ad cA σ).set 13 (ad 21, .inl (cA 21, (4000, .inl f))) = RW h ad cA (sA σ 21 f) := rfl
set_option maxRecDepth 20000 in
theorem RWa_22 {h : Nat} {ad : Nat → Nat} {cA : Nat → ClassId} {σ : RS} {f : Nat → Int32} : (RW h ad cA σ).set 14 (ad 22, .inl (cA 22, (4000, .inl f))) = RW h ad cA (sA σ 22 f) := rfl
set_option maxRecDepth 20000 in
theorem RWa_23 {h : Nat} {ad : Nat → Nat} {cA : Nat → ClassId} {σ : RS} {f : Nat → Int32} : (RW h ad cA σ).set 15 (ad 23, .inl (cA 23, (4000, .inl f))) = RW h ad cA (sA σ 23 f) := rfl
set_option maxRecDepth 20000 in
theorem RWa_24 {h : Nat} {ad : Nat → Nat} {cA : Nat → ClassId} {σ : RS} {f : Nat → Int32} : (RW h ad cA σ).set 16 (ad 24, .inl (cA 24, (4000, .inl f))) = RW h ad cA (sA σ 24 f) := rfl
set_option maxRecDepth 20000 in
theorem RWa_25 {h : Nat} {ad : Nat → Nat} {cA : Nat → ClassId} {σ : RS} {f : Nat → Int32} : (RW h ad cA σ).set 17 (ad 25, .inl (cA 25, (600, .inl f))) = RW h ad cA (sA σ 25 f) := rfl
set_option maxRecDepth 20000 in
theorem RWa_26 {h : Nat} {ad : Nat → Nat} {cA : Nat → ClassId} {σ : RS} {f : Nat → Int32} : (RW h ad cA σ).set 18 (ad 26, .inl (cA 26, (600, .inl f))) = RW h ad cA (sA σ 26 f) := rfl
set_option maxRecDepth 20000 in
theorem RWa_27 {h : Nat} {ad : Nat → Nat} {cA : Nat → ClassId} {σ : RS} {f : Nat → Int32} : (RW h ad cA σ).set 19 (ad 27, .inl (cA 27, (600, .inl f))) = RW h ad cA (sA σ 27 f) := rfl
set_option maxRecDepth 20000 in
theorem RWa_28 {h : Nat} {ad : Nat → Nat} {cA : Nat → ClassId} {σ : RS} {f : Nat → Int32} : (RW h ad cA σ).set 20 (ad 28, .inl (cA 28, (600, .inl f))) = RW h ad cA (sA σ 28 f) := rfl
set_option maxRecDepth 20000 in
theorem RWf_29 {h : Nat} {ad : Nat → Nat} {cA : Nat → ClassId} {σ : RS} {x : Int32} : (RW h ad cA σ).set 0 (h, .inr (13, (fR ad σ).set 29 (.int x))) = RW h ad cA (sI σ 29 x) := rfl
set_option maxRecDepth 20000 in
theorem RWa_30 {h : Nat} {ad : Nat → Nat} {cA : Nat → ClassId} {σ : RS} {f : Nat → Int32} : (RW h ad cA σ).set 21 (ad 30, .inl (cA 30, (600, .inl f))) = RW h ad cA (sA σ 30 f) := rfl
set_option maxRecDepth 20000 in
theorem RWf_31 {h : Nat} {ad : Nat → Nat} {cA : Nat → ClassId} {σ : RS} {x : Int32} : (RW h ad cA σ).set 0 (h, .inr (13, (fR ad σ).set 31 (.int x))) = RW h ad cA (sI σ 31 x) := rfl
set_option maxRecDepth 20000 in
theorem RWf_32 {h : Nat} {ad : Nat → Nat} {cA : Nat → ClassId} {σ : RS} {x : Int32} : (RW h ad cA σ).set 0 (h, .inr (13, (fR ad σ).set 32 (.int x))) = RW h ad cA (sI σ 32 x) := rfl
set_option maxRecDepth 20000 in
theorem RWf_33 {h : Nat} {ad : Nat → Nat} {cA : Nat → ClassId} {σ : RS} {x : Int32} : (RW h ad cA σ).set 0 (h, .inr (13, (fR ad σ).set 33 (.int x))) = RW h ad cA (sI σ 33 x) := rfl
set_option maxRecDepth 20000 in
theorem RWf_34 {h : Nat} {ad : Nat → Nat} {cA : Nat → ClassId} {σ : RS} {x : Int32} : (RW h ad cA σ).set 0 (h, .inr (13, (fR ad σ).set 34 (.int x))) = RW h ad cA (sI σ 34 x) := rfl
set_option maxRecDepth 20000 in
theorem RWf_35 {h : Nat} {ad : Nat → Nat} {cA : Nat → ClassId} {σ : RS} {x : Int32} : (RW h ad cA σ).set 0 (h, .inr (13, (fR ad σ).set 35 (.int x))) = RW h ad cA (sI σ 35 x) := rfl
set_option maxRecDepth 20000 in
theorem RWf_36 {h : Nat} {ad : Nat → Nat} {cA : Nat → ClassId} {σ : RS} {x : Int32} : (RW h ad cA σ).set 0 (h, .inr (13, (fR ad σ).set 36 (.int x))) = RW h ad cA (sI σ 36 x) := rfl
set_option maxRecDepth 20000 in
theorem RWa_37 {h : Nat} {ad : Nat → Nat} {cA : Nat → ClassId} {σ : RS} {f : Nat → Int32} : (RW h ad cA σ).set 22 (ad 37, .inl (cA 37, (16, .inl f))) = RW h ad cA (sA σ 37 f) := rfl
set_option maxRecDepth 20000 in
theorem RWa_38 {h : Nat} {ad : Nat → Nat} {cA : Nat → ClassId} {σ : RS} {f : Nat → Int32} : (RW h ad cA σ).set 23 (ad 38, .inl (cA 38, (16, .inl f))) = RW h ad cA (sA σ 38 f) := rfl
set_option maxRecDepth 20000 in
theorem RWa_39 {h : Nat} {ad : Nat → Nat} {cA : Nat → ClassId} {σ : RS} {f : Nat → Int32} : (RW h ad cA σ).set 24 (ad 39, .inl (cA 39, (16, .inl f))) = RW h ad cA (sA σ 39 f) := rfl
set_option maxRecDepth 20000 in
theorem RWa_40 {h : Nat} {ad : Nat → Nat} {cA : Nat → ClassId} {σ : RS} {f : Nat → Int32} : (RW h ad cA σ).set 25 (ad 40, .inl (cA 40, (16, .inl f))) = RW h ad cA (sA σ 40 f) := rfl
set_option maxRecDepth 20000 in
theorem RWa_41 {h : Nat} {ad : Nat → Nat} {cA : Nat → ClassId} {σ : RS} {f : Nat → Int32} : (RW h ad cA σ).set 26 (ad 41, .inl (cA 41, (16, .inl f))) = RW h ad cA (sA σ 41 f) := rfl
set_option maxRecDepth 20000 in
theorem RWf_42 {h : Nat} {ad : Nat → Nat} {cA : Nat → ClassId} {σ : RS} {x : Int32} : (RW h ad cA σ).set 0 (h, .inr (13, (fR ad σ).set 42 (.int x))) = RW h ad cA (sI σ 42 x) := rfl
set_option maxRecDepth 20000 in
theorem RWa_43 {h : Nat} {ad : Nat → Nat} {cA : Nat → ClassId} {σ : RS} {f : Nat → Int32} : (RW h ad cA σ).set 27 (ad 43, .inl (cA 43, (64, .inl f))) = RW h ad cA (sA σ 43 f) := rfl
set_option maxRecDepth 20000 in
theorem RWa_44 {h : Nat} {ad : Nat → Nat} {cA : Nat → ClassId} {σ : RS} {f : Nat → Int32} : (RW h ad cA σ).set 28 (ad 44, .inl (cA 44, (64, .inl f))) = RW h ad cA (sA σ 44 f) := rfl
set_option maxRecDepth 20000 in
theorem RWa_45 {h : Nat} {ad : Nat → Nat} {cA : Nat → ClassId} {σ : RS} {f : Nat → Int32} : (RW h ad cA σ).set 29 (ad 45, .inl (cA 45, (64, .inl f))) = RW h ad cA (sA σ 45 f) := rfl
set_option maxRecDepth 20000 in
theorem RWa_46 {h : Nat} {ad : Nat → Nat} {cA : Nat → ClassId} {σ : RS} {f : Nat → Int32} : (RW h ad cA σ).set 30 (ad 46, .inl (cA 46, (64, .inl f))) = RW h ad cA (sA σ 46 f) := rfl
set_option maxRecDepth 20000 in
theorem RWa_47 {h : Nat} {ad : Nat → Nat} {cA : Nat → ClassId} {σ : RS} {f : Nat → Int32} : (RW h ad cA σ).set 31 (ad 47, .inl (cA 47, (64, .inl f))) = RW h ad cA (sA σ 47 f) := rfl
set_option maxRecDepth 20000 in
theorem RWa_48 {h : Nat} {ad : Nat → Nat} {cA : Nat → ClassId} {σ : RS} {f : Nat → Int32} : (RW h ad cA σ).set 32 (ad 48, .inl (cA 48, (64, .inl f))) = RW h ad cA (sA σ 48 f) := rfl
set_option maxRecDepth 20000 in
theorem RWf_49 {h : Nat} {ad : Nat → Nat} {cA : Nat → ClassId} {σ : RS} {x : Int32} : (RW h ad cA σ).set 0 (h, .inr (13, (fR ad σ).set 49 (.int x))) = RW h ad cA (sI σ 49 x) := rfl
set_option maxRecDepth 20000 in
theorem RWa_50 {h : Nat} {ad : Nat → Nat} {cA : Nat → ClassId} {σ : RS} {f : Nat → Int32} : (RW h ad cA σ).set 33 (ad 50, .inl (cA 50, (600, .inl f))) = RW h ad cA (sA σ 50 f) := rfl
set_option maxRecDepth 20000 in
theorem RWa_51 {h : Nat} {ad : Nat → Nat} {cA : Nat → ClassId} {σ : RS} {f : Nat → Int32} : (RW h ad cA σ).set 34 (ad 51, .inl (cA 51, (600, .inl f))) = RW h ad cA (sA σ 51 f) := rfl
set_option maxRecDepth 20000 in
theorem RWa_52 {h : Nat} {ad : Nat → Nat} {cA : Nat → ClassId} {σ : RS} {f : Nat → Int32} : (RW h ad cA σ).set 35 (ad 52, .inl (cA 52, (600, .inl f))) = RW h ad cA (sA σ 52 f) := rfl
set_option maxRecDepth 20000 in
theorem RWa_53 {h : Nat} {ad : Nat → Nat} {cA : Nat → ClassId} {σ : RS} {f : Nat → Int32} : (RW h ad cA σ).set 36 (ad 53, .inl (cA 53, (600, .inl f))) = RW h ad cA (sA σ 53 f) := rfl
set_option maxRecDepth 20000 in
theorem RWa_54 {h : Nat} {ad : Nat → Nat} {cA : Nat → ClassId} {σ : RS} {f : Nat → Int32} : (RW h ad cA σ).set 37 (ad 54, .inl (cA 54, (600, .inl f))) = RW h ad cA (sA σ 54 f) := rfl
set_option maxRecDepth 20000 in
theorem RWa_55 {h : Nat} {ad : Nat → Nat} {cA : Nat → ClassId} {σ : RS} {f : Nat → Int32} : (RW h ad cA σ).set 38 (ad 55, .inl (cA 55, (600, .inl f))) = RW h ad cA (sA σ 55 f) := rfl
set_option maxRecDepth 20000 in
theorem RWa_56 {h : Nat} {ad : Nat → Nat} {cA : Nat → ClassId} {σ : RS} {f : Nat → Int32} : (RW h ad cA σ).set 39 (ad 56, .inl (cA 56, (600, .inl f))) = RW h ad cA (sA σ 56 f) := rfl
set_option maxRecDepth 20000 in
theorem RWa_57 {h : Nat} {ad : Nat → Nat} {cA : Nat → ClassId} {σ : RS} {f : Nat → Int32} : (RW h ad cA σ).set 40 (ad 57, .inl (cA 57, (600, .inl f))) = RW h ad cA (sA σ 57 f) := rfl
set_option maxRecDepth 20000 in
theorem RWa_58 {h : Nat} {ad : Nat → Nat} {cA : Nat → ClassId} {σ : RS} {f : Nat → Int32} : (RW h ad cA σ).set 41 (ad 58, .inl (cA 58, (600, .inl f))) = RW h ad cA (sA σ 58 f) := rfl
set_option maxRecDepth 20000 in
theorem RWa_59 {h : Nat} {ad : Nat → Nat} {cA : Nat → ClassId} {σ : RS} {f : Nat → Int32} : (RW h ad cA σ).set 42 (ad 59, .inl (cA 59, (600, .inl f))) = RW h ad cA (sA σ 59 f) := rfl
set_option maxRecDepth 20000 in
theorem RWa_60 {h : Nat} {ad : Nat → Nat} {cA : Nat → ClassId} {σ : RS} {f : Nat → Int32} : (RW h ad cA σ).set 43 (ad 60, .inl (cA 60, (600, .inl f))) = RW h ad cA (sA σ 60 f) := rfl
set_option maxRecDepth 20000 in
theorem RWa_61 {h : Nat} {ad : Nat → Nat} {cA : Nat → ClassId} {σ : RS} {f : Nat → Int32} : (RW h ad cA σ).set 44 (ad 61, .inl (cA 61, (600, .inl f))) = RW h ad cA (sA σ 61 f) := rfl
set_option maxRecDepth 20000 in
theorem RWf_62 {h : Nat} {ad : Nat → Nat} {cA : Nat → ClassId} {σ : RS} {x : Int32} : (RW h ad cA σ).set 0 (h, .inr (13, (fR ad σ).set 62 (.int x))) = RW h ad cA (sI σ 62 x) := rfl
set_option maxRecDepth 20000 in
theorem RWa_63 {h : Nat} {ad : Nat → Nat} {cA : Nat → ClassId} {σ : RS} {f : Nat → Int32} : (RW h ad cA σ).set 45 (ad 63, .inl (cA 63, (80, .inl f))) = RW h ad cA (sA σ 63 f) := rfl
set_option maxRecDepth 20000 in
theorem RWa_64 {h : Nat} {ad : Nat → Nat} {cA : Nat → ClassId} {σ : RS} {f : Nat → Int32} : (RW h ad cA σ).set 46 (ad 64, .inl (cA 64, (80, .inl f))) = RW h ad cA (sA σ 64 f) := rfl
set_option maxRecDepth 20000 in
theorem RWa_65 {h : Nat} {ad : Nat → Nat} {cA : Nat → ClassId} {σ : RS} {f : Nat → Int32} : (RW h ad cA σ).set 47 (ad 65, .inl (cA 65, (80, .inl f))) = RW h ad cA (sA σ 65 f) := rfl
set_option maxRecDepth 20000 in
theorem RWf_66 {h : Nat} {ad : Nat → Nat} {cA : Nat → ClassId} {σ : RS} {x : Int32} : (RW h ad cA σ).set 0 (h, .inr (13, (fR ad σ).set 66 (.int x))) = RW h ad cA (sI σ 66 x) := rfl
set_option maxRecDepth 20000 in
theorem RWf_67 {h : Nat} {ad : Nat → Nat} {cA : Nat → ClassId} {σ : RS} {x : Int32} : (RW h ad cA σ).set 0 (h, .inr (13, (fR ad σ).set 67 (.int x))) = RW h ad cA (sI σ 67 x) := rfl
set_option maxRecDepth 20000 in
theorem RWf_68 {h : Nat} {ad : Nat → Nat} {cA : Nat → ClassId} {σ : RS} {x : Int32} : (RW h ad cA σ).set 0 (h, .inr (13, (fR ad σ).set 68 (.int x))) = RW h ad cA (sI σ 68 x) := rfl
set_option maxRecDepth 20000 in
theorem RWf_69 {h : Nat} {ad : Nat → Nat} {cA : Nat → ClassId} {σ : RS} {x : Int32} : (RW h ad cA σ).set 0 (h, .inr (13, (fR ad σ).set 69 (.int x))) = RW h ad cA (sI σ 69 x) := rfl
set_option maxRecDepth 20000 in
theorem RWa_70 {h : Nat} {ad : Nat → Nat} {cA : Nat → ClassId} {σ : RS} {f : Nat → Int32} : (RW h ad cA σ).set 48 (ad 70, .inl (cA 70, (700, .inl f))) = RW h ad cA (sA σ 70 f) := rfl
set_option maxRecDepth 20000 in
theorem RWa_71 {h : Nat} {ad : Nat → Nat} {cA : Nat → ClassId} {σ : RS} {f : Nat → Int32} : (RW h ad cA σ).set 49 (ad 71, .inl (cA 71, (700, .inl f))) = RW h ad cA (sA σ 71 f) := rfl
set_option maxRecDepth 20000 in
theorem RWa_72 {h : Nat} {ad : Nat → Nat} {cA : Nat → ClassId} {σ : RS} {f : Nat → Int64} : (RW h ad cA σ).set 50 (ad 72, .inl (cA 72, (700, .inr (.inl f)))) = RW h ad cA (sM σ 72 f) := rfl
set_option maxRecDepth 20000 in
theorem RWa_73 {h : Nat} {ad : Nat → Nat} {cA : Nat → ClassId} {σ : RS} {f : Nat → Int32} : (RW h ad cA σ).set 51 (ad 73, .inl (cA 73, (700, .inl f))) = RW h ad cA (sA σ 73 f) := rfl
set_option maxRecDepth 20000 in
theorem RWf_74 {h : Nat} {ad : Nat → Nat} {cA : Nat → ClassId} {σ : RS} {x : Int32} : (RW h ad cA σ).set 0 (h, .inr (13, (fR ad σ).set 74 (.int x))) = RW h ad cA (sI σ 74 x) := rfl
set_option maxRecDepth 20000 in
theorem RWa_75 {h : Nat} {ad : Nat → Nat} {cA : Nat → ClassId} {σ : RS} {f : Nat → Int32} : (RW h ad cA σ).set 52 (ad 75, .inl (cA 75, (2000, .inl f))) = RW h ad cA (sA σ 75 f) := rfl
set_option maxRecDepth 20000 in
theorem RWa_76 {h : Nat} {ad : Nat → Nat} {cA : Nat → ClassId} {σ : RS} {f : Nat → Int32} : (RW h ad cA σ).set 53 (ad 76, .inl (cA 76, (2000, .inl f))) = RW h ad cA (sA σ 76 f) := rfl
set_option maxRecDepth 20000 in
theorem RWa_77 {h : Nat} {ad : Nat → Nat} {cA : Nat → ClassId} {σ : RS} {f : Nat → Int32} : (RW h ad cA σ).set 54 (ad 77, .inl (cA 77, (2000, .inl f))) = RW h ad cA (sA σ 77 f) := rfl
set_option maxRecDepth 20000 in
theorem RWa_78 {h : Nat} {ad : Nat → Nat} {cA : Nat → ClassId} {σ : RS} {f : Nat → Int32} : (RW h ad cA σ).set 55 (ad 78, .inl (cA 78, (2000, .inl f))) = RW h ad cA (sA σ 78 f) := rfl
set_option maxRecDepth 20000 in
theorem RWa_79 {h : Nat} {ad : Nat → Nat} {cA : Nat → ClassId} {σ : RS} {f : Nat → Int64} : (RW h ad cA σ).set 56 (ad 79, .inl (cA 79, (2000, .inr (.inl f)))) = RW h ad cA (sM σ 79 f) := rfl
set_option maxRecDepth 20000 in
theorem RWa_80 {h : Nat} {ad : Nat → Nat} {cA : Nat → ClassId} {σ : RS} {f : Nat → Int32} : (RW h ad cA σ).set 57 (ad 80, .inl (cA 80, (2600, .inl f))) = RW h ad cA (sA σ 80 f) := rfl
set_option maxRecDepth 20000 in
theorem RWa_81 {h : Nat} {ad : Nat → Nat} {cA : Nat → ClassId} {σ : RS} {f : Nat → Int32} : (RW h ad cA σ).set 58 (ad 81, .inl (cA 81, (4000, .inl f))) = RW h ad cA (sA σ 81 f) := rfl
set_option maxRecDepth 20000 in
theorem RWa_82 {h : Nat} {ad : Nat → Nat} {cA : Nat → ClassId} {σ : RS} {f : Nat → Int32} : (RW h ad cA σ).set 59 (ad 82, .inl (cA 82, (4000, .inl f))) = RW h ad cA (sA σ 82 f) := rfl
set_option maxRecDepth 20000 in
theorem RWa_83 {h : Nat} {ad : Nat → Nat} {cA : Nat → ClassId} {σ : RS} {f : Nat → Int32} : (RW h ad cA σ).set 60 (ad 83, .inl (cA 83, (4000, .inl f))) = RW h ad cA (sA σ 83 f) := rfl
set_option maxRecDepth 20000 in
theorem RWa_84 {h : Nat} {ad : Nat → Nat} {cA : Nat → ClassId} {σ : RS} {f : Nat → Int32} : (RW h ad cA σ).set 61 (ad 84, .inl (cA 84, (4000, .inl f))) = RW h ad cA (sA σ 84 f) := rfl
set_option maxRecDepth 20000 in
theorem RWa_85 {h : Nat} {ad : Nat → Nat} {cA : Nat → ClassId} {σ : RS} {f : Nat → Int64} : (RW h ad cA σ).set 62 (ad 85, .inl (cA 85, (4000, .inr (.inl f)))) = RW h ad cA (sM σ 85 f) := rfl
set_option maxRecDepth 20000 in
theorem RWa_86 {h : Nat} {ad : Nat → Nat} {cA : Nat → ClassId} {σ : RS} {f : Nat → Int32} : (RW h ad cA σ).set 63 (ad 86, .inl (cA 86, (64, .inl f))) = RW h ad cA (sA σ 86 f) := rfl
set_option maxRecDepth 20000 in
theorem RWa_87 {h : Nat} {ad : Nat → Nat} {cA : Nat → ClassId} {σ : RS} {f : Nat → Int64} : (RW h ad cA σ).set 64 (ad 87, .inl (cA 87, (64, .inr (.inl f)))) = RW h ad cA (sM σ 87 f) := rfl
set_option maxRecDepth 20000 in
theorem RWa_88 {h : Nat} {ad : Nat → Nat} {cA : Nat → ClassId} {σ : RS} {f : Nat → Int32} : (RW h ad cA σ).set 65 (ad 88, .inl (cA 88, (600, .inl f))) = RW h ad cA (sA σ 88 f) := rfl
set_option maxRecDepth 20000 in
theorem RWf_89 {h : Nat} {ad : Nat → Nat} {cA : Nat → ClassId} {σ : RS} {x : Int32} : (RW h ad cA σ).set 0 (h, .inr (13, (fR ad σ).set 89 (.int x))) = RW h ad cA (sI σ 89 x) := rfl
set_option maxRecDepth 20000 in
theorem RWa_90 {h : Nat} {ad : Nat → Nat} {cA : Nat → ClassId} {σ : RS} {f : Nat → Int32} : (RW h ad cA σ).set 66 (ad 90, .inl (cA 90, (80, .inl f))) = RW h ad cA (sA σ 90 f) := rfl
set_option maxRecDepth 20000 in
theorem RWf_91 {h : Nat} {ad : Nat → Nat} {cA : Nat → ClassId} {σ : RS} {x : Int32} : (RW h ad cA σ).set 0 (h, .inr (13, (fR ad σ).set 91 (.int x))) = RW h ad cA (sI σ 91 x) := rfl
set_option maxRecDepth 20000 in
theorem RWf_92 {h : Nat} {ad : Nat → Nat} {cA : Nat → ClassId} {σ : RS} {x : Int32} : (RW h ad cA σ).set 0 (h, .inr (13, (fR ad σ).set 92 (.int x))) = RW h ad cA (sI σ 92 x) := rfl
set_option maxRecDepth 20000 in
theorem RWf_93 {h : Nat} {ad : Nat → Nat} {cA : Nat → ClassId} {σ : RS} {x : Int64} : (RW h ad cA σ).set 0 (h, .inr (13, (fR ad σ).set 93 (.long x))) = RW h ad cA (sL σ 93 x) := rfl
set_option maxRecDepth 20000 in
theorem RWf_94 {h : Nat} {ad : Nat → Nat} {cA : Nat → ClassId} {σ : RS} {x : Int64} : (RW h ad cA σ).set 0 (h, .inr (13, (fR ad σ).set 94 (.long x))) = RW h ad cA (sL σ 94 x) := rfl
set_option maxRecDepth 20000 in
theorem RWa_95 {h : Nat} {ad : Nat → Nat} {cA : Nat → ClassId} {σ : RS} {f : Nat → Int32} : (RW h ad cA σ).set 67 (ad 95, .inl (cA 95, (600, .inl f))) = RW h ad cA (sA σ 95 f) := rfl
set_option maxRecDepth 20000 in
theorem RWa_96 {h : Nat} {ad : Nat → Nat} {cA : Nat → ClassId} {σ : RS} {f : Nat → Int64} : (RW h ad cA σ).set 68 (ad 96, .inl (cA 96, (600, .inr (.inl f)))) = RW h ad cA (sM σ 96 f) := rfl
set_option maxRecDepth 20000 in
theorem RWa_97 {h : Nat} {ad : Nat → Nat} {cA : Nat → ClassId} {σ : RS} {f : Nat → Int32} : (RW h ad cA σ).set 69 (ad 97, .inl (cA 97, (600, .inl f))) = RW h ad cA (sA σ 97 f) := rfl
set_option maxRecDepth 20000 in
theorem RWa_98 {h : Nat} {ad : Nat → Nat} {cA : Nat → ClassId} {σ : RS} {f : Nat → Int64} : (RW h ad cA σ).set 70 (ad 98, .inl (cA 98, (600, .inr (.inl f)))) = RW h ad cA (sM σ 98 f) := rfl
set_option maxRecDepth 20000 in
theorem RWa_99 {h : Nat} {ad : Nat → Nat} {cA : Nat → ClassId} {σ : RS} {f : Nat → Int64} : (RW h ad cA σ).set 71 (ad 99, .inl (cA 99, (600, .inr (.inl f)))) = RW h ad cA (sM σ 99 f) := rfl
set_option maxRecDepth 20000 in
theorem RWf_100 {h : Nat} {ad : Nat → Nat} {cA : Nat → ClassId} {σ : RS} {x : Int32} : (RW h ad cA σ).set 0 (h, .inr (13, (fR ad σ).set 100 (.int x))) = RW h ad cA (sI σ 100 x) := rfl
set_option maxRecDepth 20000 in
theorem RWa_101 {h : Nat} {ad : Nat → Nat} {cA : Nat → ClassId} {σ : RS} {f : Nat → Int64} : (RW h ad cA σ).set 72 (ad 101, .inl (cA 101, (300, .inr (.inl f)))) = RW h ad cA (sM σ 101 f) := rfl
set_option maxRecDepth 20000 in
theorem RWa_102 {h : Nat} {ad : Nat → Nat} {cA : Nat → ClassId} {σ : RS} {f : Nat → Int64} : (RW h ad cA σ).set 73 (ad 102, .inl (cA 102, (300, .inr (.inl f)))) = RW h ad cA (sM σ 102 f) := rfl
set_option maxRecDepth 20000 in
theorem RWf_103 {h : Nat} {ad : Nat → Nat} {cA : Nat → ClassId} {σ : RS} {x : Int32} : (RW h ad cA σ).set 0 (h, .inr (13, (fR ad σ).set 103 (.int x))) = RW h ad cA (sI σ 103 x) := rfl
set_option maxRecDepth 20000 in
theorem RWa_104 {h : Nat} {ad : Nat → Nat} {cA : Nat → ClassId} {σ : RS} {f : Nat → Int32} : (RW h ad cA σ).set 74 (ad 104, .inl (cA 104, (600, .inl f))) = RW h ad cA (sA σ 104 f) := rfl
set_option maxRecDepth 20000 in
theorem RWa_105 {h : Nat} {ad : Nat → Nat} {cA : Nat → ClassId} {σ : RS} {f : Nat → Int32} : (RW h ad cA σ).set 75 (ad 105, .inl (cA 105, (600, .inl f))) = RW h ad cA (sA σ 105 f) := rfl
set_option maxRecDepth 20000 in
theorem RWa_106 {h : Nat} {ad : Nat → Nat} {cA : Nat → ClassId} {σ : RS} {f : Nat → Int32} : (RW h ad cA σ).set 76 (ad 106, .inl (cA 106, (600, .inl f))) = RW h ad cA (sA σ 106 f) := rfl
set_option maxRecDepth 20000 in
theorem RWa_107 {h : Nat} {ad : Nat → Nat} {cA : Nat → ClassId} {σ : RS} {f : Nat → Int32} : (RW h ad cA σ).set 77 (ad 107, .inl (cA 107, (600, .inl f))) = RW h ad cA (sA σ 107 f) := rfl
set_option maxRecDepth 20000 in
theorem RWa_108 {h : Nat} {ad : Nat → Nat} {cA : Nat → ClassId} {σ : RS} {f : Nat → Int64} : (RW h ad cA σ).set 78 (ad 108, .inl (cA 108, (600, .inr (.inl f)))) = RW h ad cA (sM σ 108 f) := rfl
set_option maxRecDepth 20000 in
theorem RWa_109 {h : Nat} {ad : Nat → Nat} {cA : Nat → ClassId} {σ : RS} {f : Nat → Int32} : (RW h ad cA σ).set 79 (ad 109, .inl (cA 109, (2600, .inl f))) = RW h ad cA (sA σ 109 f) := rfl
set_option maxRecDepth 20000 in
theorem RWa_110 {h : Nat} {ad : Nat → Nat} {cA : Nat → ClassId} {σ : RS} {f : Nat → Int64} : (RW h ad cA σ).set 80 (ad 110, .inl (cA 110, (2600, .inr (.inl f)))) = RW h ad cA (sM σ 110 f) := rfl
set_option maxRecDepth 20000 in
theorem RWa_111 {h : Nat} {ad : Nat → Nat} {cA : Nat → ClassId} {σ : RS} {f : Nat → Int32} : (RW h ad cA σ).set 81 (ad 111, .inl (cA 111, (2600, .inl f))) = RW h ad cA (sA σ 111 f) := rfl
set_option maxRecDepth 20000 in
theorem RWf_112 {h : Nat} {ad : Nat → Nat} {cA : Nat → ClassId} {σ : RS} {x : Int32} : (RW h ad cA σ).set 0 (h, .inr (13, (fR ad σ).set 112 (.int x))) = RW h ad cA (sI σ 112 x) := rfl
set_option maxRecDepth 20000 in
theorem RWf_113 {h : Nat} {ad : Nat → Nat} {cA : Nat → ClassId} {σ : RS} {x : Int32} : (RW h ad cA σ).set 0 (h, .inr (13, (fR ad σ).set 113 (.int x))) = RW h ad cA (sI σ 113 x) := rfl
set_option maxRecDepth 20000 in
theorem RWf_114 {h : Nat} {ad : Nat → Nat} {cA : Nat → ClassId} {σ : RS} {x : Int32} : (RW h ad cA σ).set 0 (h, .inr (13, (fR ad σ).set 114 (.int x))) = RW h ad cA (sI σ 114 x) := rfl
set_option maxRecDepth 20000 in
theorem RWf_115 {h : Nat} {ad : Nat → Nat} {cA : Nat → ClassId} {σ : RS} {x : Int32} : (RW h ad cA σ).set 0 (h, .inr (13, (fR ad σ).set 115 (.int x))) = RW h ad cA (sI σ 115 x) := rfl
set_option maxRecDepth 20000 in
theorem RWf_116 {h : Nat} {ad : Nat → Nat} {cA : Nat → ClassId} {σ : RS} {x : Int32} : (RW h ad cA σ).set 0 (h, .inr (13, (fR ad σ).set 116 (.int x))) = RW h ad cA (sI σ 116 x) := rfl
set_option maxRecDepth 20000 in
theorem RWf_117 {h : Nat} {ad : Nat → Nat} {cA : Nat → ClassId} {σ : RS} {x : Int32} : (RW h ad cA σ).set 0 (h, .inr (13, (fR ad σ).set 117 (.int x))) = RW h ad cA (sI σ 117 x) := rfl
set_option maxRecDepth 20000 in
theorem RWa_118 {h : Nat} {ad : Nat → Nat} {cA : Nat → ClassId} {σ : RS} {f : Nat → Int32} : (RW h ad cA σ).set 82 (ad 118, .inl (cA 118, (2500, .inl f))) = RW h ad cA (sA σ 118 f) := rfl
set_option maxRecDepth 20000 in
theorem RWf_119 {h : Nat} {ad : Nat → Nat} {cA : Nat → ClassId} {σ : RS} {x : Int32} : (RW h ad cA σ).set 0 (h, .inr (13, (fR ad σ).set 119 (.int x))) = RW h ad cA (sI σ 119 x) := rfl
set_option maxRecDepth 20000 in
theorem RWf_120 {h : Nat} {ad : Nat → Nat} {cA : Nat → ClassId} {σ : RS} {x : Int32} : (RW h ad cA σ).set 0 (h, .inr (13, (fR ad σ).set 120 (.int x))) = RW h ad cA (sI σ 120 x) := rfl
set_option maxRecDepth 20000 in
theorem RWf_121 {h : Nat} {ad : Nat → Nat} {cA : Nat → ClassId} {σ : RS} {x : Int32} : (RW h ad cA σ).set 0 (h, .inr (13, (fR ad σ).set 121 (.int x))) = RW h ad cA (sI σ 121 x) := rfl
set_option maxRecDepth 20000 in
theorem RWa_122 {h : Nat} {ad : Nat → Nat} {cA : Nat → ClassId} {σ : RS} {f : Nat → Int32} : (RW h ad cA σ).set 83 (ad 122, .inl (cA 122, (40, .inl f))) = RW h ad cA (sA σ 122 f) := rfl
set_option maxRecDepth 20000 in
theorem RWf_123 {h : Nat} {ad : Nat → Nat} {cA : Nat → ClassId} {σ : RS} {x : Int32} : (RW h ad cA σ).set 0 (h, .inr (13, (fR ad σ).set 123 (.int x))) = RW h ad cA (sI σ 123 x) := rfl
set_option maxRecDepth 20000 in
theorem RWa_124 {h : Nat} {ad : Nat → Nat} {cA : Nat → ClassId} {σ : RS} {f : Nat → Int64} : (RW h ad cA σ).set 84 (ad 124, .inl (cA 124, (6, .inr (.inl f)))) = RW h ad cA (sM σ 124 f) := rfl
set_option maxRecDepth 20000 in
theorem RWa_125 {h : Nat} {ad : Nat → Nat} {cA : Nat → ClassId} {σ : RS} {f : Nat → Int32} : (RW h ad cA σ).set 85 (ad 125, .inl (cA 125, (4000, .inl f))) = RW h ad cA (sA σ 125 f) := rfl
set_option maxRecDepth 20000 in
theorem RWa_126 {h : Nat} {ad : Nat → Nat} {cA : Nat → ClassId} {σ : RS} {f : Nat → Int32} : (RW h ad cA σ).set 86 (ad 126, .inl (cA 126, (300, .inl f))) = RW h ad cA (sA σ 126 f) := rfl
set_option maxRecDepth 20000 in
theorem RWa_127 {h : Nat} {ad : Nat → Nat} {cA : Nat → ClassId} {σ : RS} {f : Nat → Int64} : (RW h ad cA σ).set 87 (ad 127, .inl (cA 127, (8000, .inr (.inl f)))) = RW h ad cA (sM σ 127 f) := rfl
set_option maxRecDepth 20000 in
theorem RWf_128 {h : Nat} {ad : Nat → Nat} {cA : Nat → ClassId} {σ : RS} {x : Int32} : (RW h ad cA σ).set 0 (h, .inr (13, (fR ad σ).set 128 (.int x))) = RW h ad cA (sI σ 128 x) := rfl
set_option maxRecDepth 20000 in
theorem RWf_129 {h : Nat} {ad : Nat → Nat} {cA : Nat → ClassId} {σ : RS} {x : Int32} : (RW h ad cA σ).set 0 (h, .inr (13, (fR ad σ).set 129 (.int x))) = RW h ad cA (sI σ 129 x) := rfl
set_option maxRecDepth 20000 in
theorem RWa_130 {h : Nat} {ad : Nat → Nat} {cA : Nat → ClassId} {σ : RS} {f : Nat → Int64} : (RW h ad cA σ).set 88 (ad 130, .inl (cA 130, (1860, .inr (.inl f)))) = RW h ad cA (sM σ 130 f) := rfl
set_option maxRecDepth 20000 in
theorem RWa_131 {h : Nat} {ad : Nat → Nat} {cA : Nat → ClassId} {σ : RS} {f : Nat → Int32} : (RW h ad cA σ).set 89 (ad 131, .inl (cA 131, (31, .inl f))) = RW h ad cA (sA σ 131 f) := rfl
set_option maxRecDepth 20000 in
theorem RWa_132 {h : Nat} {ad : Nat → Nat} {cA : Nat → ClassId} {σ : RS} {f : Nat → Int32} : (RW h ad cA σ).set 90 (ad 132, .inl (cA 132, (31, .inl f))) = RW h ad cA (sA σ 132 f) := rfl
set_option maxRecDepth 20000 in
theorem RWf_133 {h : Nat} {ad : Nat → Nat} {cA : Nat → ClassId} {σ : RS} {x : Int32} : (RW h ad cA σ).set 0 (h, .inr (13, (fR ad σ).set 133 (.int x))) = RW h ad cA (sI σ 133 x) := rfl
set_option maxRecDepth 20000 in
theorem RWa_134 {h : Nat} {ad : Nat → Nat} {cA : Nat → ClassId} {σ : RS} {f : Nat → Int32} : (RW h ad cA σ).set 91 (ad 134, .inl (cA 134, (2000, .inl f))) = RW h ad cA (sA σ 134 f) := rfl
set_option maxRecDepth 20000 in
theorem RWa_135 {h : Nat} {ad : Nat → Nat} {cA : Nat → ClassId} {σ : RS} {f : Nat → Int32} : (RW h ad cA σ).set 92 (ad 135, .inl (cA 135, (2000, .inl f))) = RW h ad cA (sA σ 135 f) := rfl
set_option maxRecDepth 20000 in
theorem RWa_136 {h : Nat} {ad : Nat → Nat} {cA : Nat → ClassId} {σ : RS} {f : Nat → Int32} : (RW h ad cA σ).set 93 (ad 136, .inl (cA 136, (2000, .inl f))) = RW h ad cA (sA σ 136 f) := rfl
set_option maxRecDepth 20000 in
theorem RWa_137 {h : Nat} {ad : Nat → Nat} {cA : Nat → ClassId} {σ : RS} {f : Nat → Int32} : (RW h ad cA σ).set 94 (ad 137, .inl (cA 137, (2000, .inl f))) = RW h ad cA (sA σ 137 f) := rfl
set_option maxRecDepth 20000 in
theorem RWa_138 {h : Nat} {ad : Nat → Nat} {cA : Nat → ClassId} {σ : RS} {f : Nat → Int32} : (RW h ad cA σ).set 95 (ad 138, .inl (cA 138, (2000, .inl f))) = RW h ad cA (sA σ 138 f) := rfl
set_option maxRecDepth 20000 in
theorem RWa_139 {h : Nat} {ad : Nat → Nat} {cA : Nat → ClassId} {σ : RS} {f : Nat → Int32} : (RW h ad cA σ).set 96 (ad 139, .inl (cA 139, (2000, .inl f))) = RW h ad cA (sA σ 139 f) := rfl
set_option maxRecDepth 20000 in
theorem RWa_140 {h : Nat} {ad : Nat → Nat} {cA : Nat → ClassId} {σ : RS} {f : Nat → Int64} : (RW h ad cA σ).set 97 (ad 140, .inl (cA 140, (2000, .inr (.inl f)))) = RW h ad cA (sM σ 140 f) := rfl
set_option maxRecDepth 20000 in
theorem RWf_141 {h : Nat} {ad : Nat → Nat} {cA : Nat → ClassId} {σ : RS} {x : Int32} : (RW h ad cA σ).set 0 (h, .inr (13, (fR ad σ).set 141 (.int x))) = RW h ad cA (sI σ 141 x) := rfl
set_option maxRecDepth 20000 in
theorem RWf_142 {h : Nat} {ad : Nat → Nat} {cA : Nat → ClassId} {σ : RS} {x : Int32} : (RW h ad cA σ).set 0 (h, .inr (13, (fR ad σ).set 142 (.int x))) = RW h ad cA (sI σ 142 x) := rfl
set_option maxRecDepth 20000 in
theorem RWf_143 {h : Nat} {ad : Nat → Nat} {cA : Nat → ClassId} {σ : RS} {x : Int64} : (RW h ad cA σ).set 0 (h, .inr (13, (fR ad σ).set 143 (.long x))) = RW h ad cA (sL σ 143 x) := rfl
set_option maxRecDepth 20000 in
theorem RWf_144 {h : Nat} {ad : Nat → Nat} {cA : Nat → ClassId} {σ : RS} {x : Int32} : (RW h ad cA σ).set 0 (h, .inr (13, (fR ad σ).set 144 (.int x))) = RW h ad cA (sI σ 144 x) := rfl
set_option maxRecDepth 20000 in
theorem RWf_145 {h : Nat} {ad : Nat → Nat} {cA : Nat → ClassId} {σ : RS} {x : Int32} : (RW h ad cA σ).set 0 (h, .inr (13, (fR ad σ).set 145 (.int x))) = RW h ad cA (sI σ 145 x) := rfl
set_option maxRecDepth 20000 in
theorem RWf_146 {h : Nat} {ad : Nat → Nat} {cA : Nat → ClassId} {σ : RS} {x : Int32} : (RW h ad cA σ).set 0 (h, .inr (13, (fR ad σ).set 146 (.int x))) = RW h ad cA (sI σ 146 x) := rfl
set_option maxRecDepth 20000 in
theorem RWf_147 {h : Nat} {ad : Nat → Nat} {cA : Nat → ClassId} {σ : RS} {x : Int32} : (RW h ad cA σ).set 0 (h, .inr (13, (fR ad σ).set 147 (.int x))) = RW h ad cA (sI σ 147 x) := rfl
set_option maxRecDepth 20000 in
theorem RWf_148 {h : Nat} {ad : Nat → Nat} {cA : Nat → ClassId} {σ : RS} {x : Int32} : (RW h ad cA σ).set 0 (h, .inr (13, (fR ad σ).set 148 (.int x))) = RW h ad cA (sI σ 148 x) := rfl
set_option maxRecDepth 20000 in
theorem RWa_149 {h : Nat} {ad : Nat → Nat} {cA : Nat → ClassId} {σ : RS} {f : Nat → Int64} : (RW h ad cA σ).set 98 (ad 149, .inl (cA 149, (200, .inr (.inl f)))) = RW h ad cA (sM σ 149 f) := rfl
