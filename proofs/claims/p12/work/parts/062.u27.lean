theorem sg_no {x : TxY} {q c b s z d : Int} {f : Nat} (h : ¬ (c = 112 ∨ (chrV 3 (Int32.ofInt c)).toInt = 32)) : sgLY x q (f + 1) c b s z d = sgLY x q f (c + 1) b s z d := by rw [sgLY, if_neg h]
theorem sg_si {x : TxY} {q c b s z d : Int} {f : Nat} (h : c = 112 ∨ (chrV 3 (Int32.ofInt c)).toInt = 32) : sgLY x q (f + 1) c b s z d = if z < c - b ∧ sthB x (c - b).toNat b q = true then sgLY x q f (c + 1) (c + 1) (s + 1) (c - b) s else sgLY x q f (c + 1) (c + 1) (s + 1) z d := by rw [sgLY, if_pos h]
theorem sm_0 {x : TxY} {q : Int} : sthB x 1 0 q = (decide ((40 : Int) = btY x (q)) && true) := by
  simp only [sthB, show (chrV 3 (Int32.ofInt (0))).toInt = 40 from by decide]
theorem sg_0 {x : TxY} {q z d : Int} : sgLY x q 113 0 0 0 z d = if z < 1 ∧ (decide ((40 : Int) = btY x (q)) && true) = true then sgLY x q 111 2 2 1 1 0 else sgLY x q 111 2 2 1 z d := by
  rw [sg_no (by decide), sg_si (by decide)]
  rw [← sm_0]
  rfl
theorem sm_1 {x : TxY} {q : Int} : sthB x 1 2 q = (decide ((41 : Int) = btY x (q)) && true) := by
  simp only [sthB, show (chrV 3 (Int32.ofInt (2))).toInt = 41 from by decide]
theorem sg_1 {x : TxY} {q z d : Int} : sgLY x q 111 2 2 1 z d = if z < 1 ∧ (decide ((41 : Int) = btY x (q)) && true) = true then sgLY x q 109 4 4 2 1 1 else sgLY x q 109 4 4 2 z d := by
  rw [sg_no (by decide), sg_si (by decide)]
  rw [← sm_1]
  rfl
theorem sm_2 {x : TxY} {q : Int} : sthB x 1 4 q = (decide ((123 : Int) = btY x (q)) && true) := by
  simp only [sthB, show (chrV 3 (Int32.ofInt (4))).toInt = 123 from by decide]
theorem sg_2 {x : TxY} {q z d : Int} : sgLY x q 109 4 4 2 z d = if z < 1 ∧ (decide ((123 : Int) = btY x (q)) && true) = true then sgLY x q 107 6 6 3 1 2 else sgLY x q 107 6 6 3 z d := by
  rw [sg_no (by decide), sg_si (by decide)]
  rw [← sm_2]
  rfl
theorem sm_3 {x : TxY} {q : Int} : sthB x 1 6 q = (decide ((125 : Int) = btY x (q)) && true) := by
  simp only [sthB, show (chrV 3 (Int32.ofInt (6))).toInt = 125 from by decide]
theorem sg_3 {x : TxY} {q z d : Int} : sgLY x q 107 6 6 3 z d = if z < 1 ∧ (decide ((125 : Int) = btY x (q)) && true) = true then sgLY x q 105 8 8 4 1 3 else sgLY x q 105 8 8 4 z d := by
  rw [sg_no (by decide), sg_si (by decide)]
  rw [← sm_3]
  rfl
theorem sm_4 {x : TxY} {q : Int} : sthB x 1 8 q = (decide ((59 : Int) = btY x (q)) && true) := by
  simp only [sthB, show (chrV 3 (Int32.ofInt (8))).toInt = 59 from by decide]
theorem sg_4 {x : TxY} {q z d : Int} : sgLY x q 105 8 8 4 z d = if z < 1 ∧ (decide ((59 : Int) = btY x (q)) && true) = true then sgLY x q 103 10 10 5 1 4 else sgLY x q 103 10 10 5 z d := by
  rw [sg_no (by decide), sg_si (by decide)]
  rw [← sm_4]
  rfl
theorem sm_5 {x : TxY} {q : Int} : sthB x 1 10 q = (decide ((44 : Int) = btY x (q)) && true) := by
  simp only [sthB, show (chrV 3 (Int32.ofInt (10))).toInt = 44 from by decide]
theorem sg_5 {x : TxY} {q z d : Int} : sgLY x q 103 10 10 5 z d = if z < 1 ∧ (decide ((44 : Int) = btY x (q)) && true) = true then sgLY x q 101 12 12 6 1 5 else sgLY x q 101 12 12 6 z d := by
  rw [sg_no (by decide), sg_si (by decide)]
  rw [← sm_5]
  rfl
theorem sm_6 {x : TxY} {q : Int} : sthB x 1 12 q = (decide ((58 : Int) = btY x (q)) && true) := by
  simp only [sthB, show (chrV 3 (Int32.ofInt (12))).toInt = 58 from by decide]
theorem sg_6 {x : TxY} {q z d : Int} : sgLY x q 101 12 12 6 z d = if z < 1 ∧ (decide ((58 : Int) = btY x (q)) && true) = true then sgLY x q 99 14 14 7 1 6 else sgLY x q 99 14 14 7 z d := by
  rw [sg_no (by decide), sg_si (by decide)]
  rw [← sm_6]
  rfl
theorem sm_7 {x : TxY} {q : Int} : sthB x 1 14 q = (decide ((63 : Int) = btY x (q)) && true) := by
  simp only [sthB, show (chrV 3 (Int32.ofInt (14))).toInt = 63 from by decide]
theorem sg_7 {x : TxY} {q z d : Int} : sgLY x q 99 14 14 7 z d = if z < 1 ∧ (decide ((63 : Int) = btY x (q)) && true) = true then sgLY x q 97 16 16 8 1 7 else sgLY x q 97 16 16 8 z d := by
  rw [sg_no (by decide), sg_si (by decide)]
  rw [← sm_7]
  rfl
theorem sm_8 {x : TxY} {q : Int} : sthB x 1 16 q = (decide ((61 : Int) = btY x (q)) && true) := by
  simp only [sthB, show (chrV 3 (Int32.ofInt (16))).toInt = 61 from by decide]
theorem sg_8 {x : TxY} {q z d : Int} : sgLY x q 97 16 16 8 z d = if z < 1 ∧ (decide ((61 : Int) = btY x (q)) && true) = true then sgLY x q 95 18 18 9 1 8 else sgLY x q 95 18 18 9 z d := by
  rw [sg_no (by decide), sg_si (by decide)]
  rw [← sm_8]
  rfl
theorem sm_9 {x : TxY} {q : Int} : sthB x 2 18 q = (decide ((43 : Int) = btY x (q)) && (decide ((61 : Int) = btY x (q + 1)) && true)) := by
  simp only [sthB, show (chrV 3 (Int32.ofInt (18))).toInt = 43 from by decide, show (chrV 3 (Int32.ofInt (18 + 1))).toInt = 61 from by decide]
theorem sg_9 {x : TxY} {q z d : Int} : sgLY x q 95 18 18 9 z d = if z < 2 ∧ (decide ((43 : Int) = btY x (q)) && (decide ((61 : Int) = btY x (q + 1)) && true)) = true then sgLY x q 92 21 21 10 2 9 else sgLY x q 92 21 21 10 z d := by
  rw [sg_no (by decide), sg_no (by decide), sg_si (by decide)]
  rw [← sm_9]
  rfl
theorem sm_10 {x : TxY} {q : Int} : sthB x 2 21 q = (decide ((45 : Int) = btY x (q)) && (decide ((61 : Int) = btY x (q + 1)) && true)) := by
  simp only [sthB, show (chrV 3 (Int32.ofInt (21))).toInt = 45 from by decide, show (chrV 3 (Int32.ofInt (21 + 1))).toInt = 61 from by decide]
theorem sg_10 {x : TxY} {q z d : Int} : sgLY x q 92 21 21 10 z d = if z < 2 ∧ (decide ((45 : Int) = btY x (q)) && (decide ((61 : Int) = btY x (q + 1)) && true)) = true then sgLY x q 89 24 24 11 2 10 else sgLY x q 89 24 24 11 z d := by
  rw [sg_no (by decide), sg_no (by decide), sg_si (by decide)]
  rw [← sm_10]
  rfl
theorem sm_11 {x : TxY} {q : Int} : sthB x 2 24 q = (decide ((42 : Int) = btY x (q)) && (decide ((61 : Int) = btY x (q + 1)) && true)) := by
  simp only [sthB, show (chrV 3 (Int32.ofInt (24))).toInt = 42 from by decide, show (chrV 3 (Int32.ofInt (24 + 1))).toInt = 61 from by decide]
theorem sg_11 {x : TxY} {q z d : Int} : sgLY x q 89 24 24 11 z d = if z < 2 ∧ (decide ((42 : Int) = btY x (q)) && (decide ((61 : Int) = btY x (q + 1)) && true)) = true then sgLY x q 86 27 27 12 2 11 else sgLY x q 86 27 27 12 z d := by
  rw [sg_no (by decide), sg_no (by decide), sg_si (by decide)]
  rw [← sm_11]
  rfl
theorem sm_12 {x : TxY} {q : Int} : sthB x 2 27 q = (decide ((47 : Int) = btY x (q)) && (decide ((61 : Int) = btY x (q + 1)) && true)) := by
  simp only [sthB, show (chrV 3 (Int32.ofInt (27))).toInt = 47 from by decide, show (chrV 3 (Int32.ofInt (27 + 1))).toInt = 61 from by decide]
theorem sg_12 {x : TxY} {q z d : Int} : sgLY x q 86 27 27 12 z d = if z < 2 ∧ (decide ((47 : Int) = btY x (q)) && (decide ((61 : Int) = btY x (q + 1)) && true)) = true then sgLY x q 83 30 30 13 2 12 else sgLY x q 83 30 30 13 z d := by
  rw [sg_no (by decide), sg_no (by decide), sg_si (by decide)]
  rw [← sm_12]
  rfl
theorem sm_13 {x : TxY} {q : Int} : sthB x 2 30 q = (decide ((37 : Int) = btY x (q)) && (decide ((61 : Int) = btY x (q + 1)) && true)) := by
  simp only [sthB, show (chrV 3 (Int32.ofInt (30))).toInt = 37 from by decide, show (chrV 3 (Int32.ofInt (30 + 1))).toInt = 61 from by decide]
theorem sg_13 {x : TxY} {q z d : Int} : sgLY x q 83 30 30 13 z d = if z < 2 ∧ (decide ((37 : Int) = btY x (q)) && (decide ((61 : Int) = btY x (q + 1)) && true)) = true then sgLY x q 80 33 33 14 2 13 else sgLY x q 80 33 33 14 z d := by
  rw [sg_no (by decide), sg_no (by decide), sg_si (by decide)]
  rw [← sm_13]
  rfl
theorem sm_14 {x : TxY} {q : Int} : sthB x 2 33 q = (decide ((38 : Int) = btY x (q)) && (decide ((61 : Int) = btY x (q + 1)) && true)) := by
  simp only [sthB, show (chrV 3 (Int32.ofInt (33))).toInt = 38 from by decide, show (chrV 3 (Int32.ofInt (33 + 1))).toInt = 61 from by decide]
theorem sg_14 {x : TxY} {q z d : Int} : sgLY x q 80 33 33 14 z d = if z < 2 ∧ (decide ((38 : Int) = btY x (q)) && (decide ((61 : Int) = btY x (q + 1)) && true)) = true then sgLY x q 77 36 36 15 2 14 else sgLY x q 77 36 36 15 z d := by
  rw [sg_no (by decide), sg_no (by decide), sg_si (by decide)]
  rw [← sm_14]
  rfl
theorem sm_15 {x : TxY} {q : Int} : sthB x 2 36 q = (decide ((124 : Int) = btY x (q)) && (decide ((61 : Int) = btY x (q + 1)) && true)) := by
  simp only [sthB, show (chrV 3 (Int32.ofInt (36))).toInt = 124 from by decide, show (chrV 3 (Int32.ofInt (36 + 1))).toInt = 61 from by decide]
theorem sg_15 {x : TxY} {q z d : Int} : sgLY x q 77 36 36 15 z d = if z < 2 ∧ (decide ((124 : Int) = btY x (q)) && (decide ((61 : Int) = btY x (q + 1)) && true)) = true then sgLY x q 74 39 39 16 2 15 else sgLY x q 74 39 39 16 z d := by
  rw [sg_no (by decide), sg_no (by decide), sg_si (by decide)]
  rw [← sm_15]
  rfl
theorem sm_16 {x : TxY} {q : Int} : sthB x 2 39 q = (decide ((94 : Int) = btY x (q)) && (decide ((61 : Int) = btY x (q + 1)) && true)) := by
  simp only [sthB, show (chrV 3 (Int32.ofInt (39))).toInt = 94 from by decide, show (chrV 3 (Int32.ofInt (39 + 1))).toInt = 61 from by decide]
theorem sg_16 {x : TxY} {q z d : Int} : sgLY x q 74 39 39 16 z d = if z < 2 ∧ (decide ((94 : Int) = btY x (q)) && (decide ((61 : Int) = btY x (q + 1)) && true)) = true then sgLY x q 71 42 42 17 2 16 else sgLY x q 71 42 42 17 z d := by
  rw [sg_no (by decide), sg_no (by decide), sg_si (by decide)]
  rw [← sm_16]
  rfl
theorem sm_17 {x : TxY} {q : Int} : sthB x 3 42 q = (decide ((60 : Int) = btY x (q)) && (decide ((60 : Int) = btY x (q + 1)) && (decide ((61 : Int) = btY x (q + 1 + 1)) && true))) := by
  simp only [sthB, show (chrV 3 (Int32.ofInt (42))).toInt = 60 from by decide, show (chrV 3 (Int32.ofInt (42 + 1))).toInt = 60 from by decide, show (chrV 3 (Int32.ofInt (42 + 1 + 1))).toInt = 61 from by decide]
theorem sg_17 {x : TxY} {q z d : Int} : sgLY x q 71 42 42 17 z d = if z < 3 ∧ (decide ((60 : Int) = btY x (q)) && (decide ((60 : Int) = btY x (q + 1)) && (decide ((61 : Int) = btY x (q + 1 + 1)) && true))) = true then sgLY x q 67 46 46 18 3 17 else sgLY x q 67 46 46 18 z d := by
  rw [sg_no (by decide), sg_no (by decide), sg_no (by decide), sg_si (by decide)]
  rw [← sm_17]
  rfl
theorem sm_18 {x : TxY} {q : Int} : sthB x 3 46 q = (decide ((62 : Int) = btY x (q)) && (decide ((62 : Int) = btY x (q + 1)) && (decide ((61 : Int) = btY x (q + 1 + 1)) && true))) := by
  simp only [sthB, show (chrV 3 (Int32.ofInt (46))).toInt = 62 from by decide, show (chrV 3 (Int32.ofInt (46 + 1))).toInt = 62 from by decide, show (chrV 3 (Int32.ofInt (46 + 1 + 1))).toInt = 61 from by decide]
theorem sg_18 {x : TxY} {q z d : Int} : sgLY x q 67 46 46 18 z d = if z < 3 ∧ (decide ((62 : Int) = btY x (q)) && (decide ((62 : Int) = btY x (q + 1)) && (decide ((61 : Int) = btY x (q + 1 + 1)) && true))) = true then sgLY x q 63 50 50 19 3 18 else sgLY x q 63 50 50 19 z d := by
  rw [sg_no (by decide), sg_no (by decide), sg_no (by decide), sg_si (by decide)]
  rw [← sm_18]
  rfl
theorem sm_19 {x : TxY} {q : Int} : sthB x 4 50 q = (decide ((62 : Int) = btY x (q)) && (decide ((62 : Int) = btY x (q + 1)) && (decide ((62 : Int) = btY x (q + 1 + 1)) && (decide ((61 : Int) = btY x (q + 1 + 1 + 1)) && true)))) := by
  simp only [sthB, show (chrV 3 (Int32.ofInt (50))).toInt = 62 from by decide, show (chrV 3 (Int32.ofInt (50 + 1))).toInt = 62 from by decide, show (chrV 3 (Int32.ofInt (50 + 1 + 1))).toInt = 62 from by decide, show (chrV 3 (Int32.ofInt (50 + 1 + 1 + 1))).toInt = 61 from by decide]
theorem sg_19 {x : TxY} {q z d : Int} : sgLY x q 63 50 50 19 z d = if z < 4 ∧ (decide ((62 : Int) = btY x (q)) && (decide ((62 : Int) = btY x (q + 1)) && (decide ((62 : Int) = btY x (q + 1 + 1)) && (decide ((61 : Int) = btY x (q + 1 + 1 + 1)) && true)))) = true then sgLY x q 58 55 55 20 4 19 else sgLY x q 58 55 55 20 z d := by
  rw [sg_no (by decide), sg_no (by decide), sg_no (by decide), sg_no (by decide), sg_si (by decide)]
  rw [← sm_19]
  rfl
theorem sm_20 {x : TxY} {q : Int} : sthB x 2 55 q = (decide ((124 : Int) = btY x (q)) && (decide ((124 : Int) = btY x (q + 1)) && true)) := by
  simp only [sthB, show (chrV 3 (Int32.ofInt (55))).toInt = 124 from by decide, show (chrV 3 (Int32.ofInt (55 + 1))).toInt = 124 from by decide]
theorem sg_20 {x : TxY} {q z d : Int} : sgLY x q 58 55 55 20 z d = if z < 2 ∧ (decide ((124 : Int) = btY x (q)) && (decide ((124 : Int) = btY x (q + 1)) && true)) = true then sgLY x q 55 58 58 21 2 20 else sgLY x q 55 58 58 21 z d := by
  rw [sg_no (by decide), sg_no (by decide), sg_si (by decide)]
  rw [← sm_20]
  rfl
theorem sm_21 {x : TxY} {q : Int} : sthB x 2 58 q = (decide ((38 : Int) = btY x (q)) && (decide ((38 : Int) = btY x (q + 1)) && true)) := by
  simp only [sthB, show (chrV 3 (Int32.ofInt (58))).toInt = 38 from by decide, show (chrV 3 (Int32.ofInt (58 + 1))).toInt = 38 from by decide]
theorem sg_21 {x : TxY} {q z d : Int} : sgLY x q 55 58 58 21 z d = if z < 2 ∧ (decide ((38 : Int) = btY x (q)) && (decide ((38 : Int) = btY x (q + 1)) && true)) = true then sgLY x q 52 61 61 22 2 21 else sgLY x q 52 61 61 22 z d := by
  rw [sg_no (by decide), sg_no (by decide), sg_si (by decide)]
  rw [← sm_21]
  rfl
theorem sm_22 {x : TxY} {q : Int} : sthB x 1 61 q = (decide ((124 : Int) = btY x (q)) && true) := by
  simp only [sthB, show (chrV 3 (Int32.ofInt (61))).toInt = 124 from by decide]
theorem sg_22 {x : TxY} {q z d : Int} : sgLY x q 52 61 61 22 z d = if z < 1 ∧ (decide ((124 : Int) = btY x (q)) && true) = true then sgLY x q 50 63 63 23 1 22 else sgLY x q 50 63 63 23 z d := by
  rw [sg_no (by decide), sg_si (by decide)]
  rw [← sm_22]
  rfl
theorem sm_23 {x : TxY} {q : Int} : sthB x 1 63 q = (decide ((94 : Int) = btY x (q)) && true) := by
  simp only [sthB, show (chrV 3 (Int32.ofInt (63))).toInt = 94 from by decide]
theorem sg_23 {x : TxY} {q z d : Int} : sgLY x q 50 63 63 23 z d = if z < 1 ∧ (decide ((94 : Int) = btY x (q)) && true) = true then sgLY x q 48 65 65 24 1 23 else sgLY x q 48 65 65 24 z d := by
  rw [sg_no (by decide), sg_si (by decide)]
  rw [← sm_23]
  rfl
theorem sm_24 {x : TxY} {q : Int} : sthB x 1 65 q = (decide ((38 : Int) = btY x (q)) && true) := by
  simp only [sthB, show (chrV 3 (Int32.ofInt (65))).toInt = 38 from by decide]
theorem sg_24 {x : TxY} {q z d : Int} : sgLY x q 48 65 65 24 z d = if z < 1 ∧ (decide ((38 : Int) = btY x (q)) && true) = true then sgLY x q 46 67 67 25 1 24 else sgLY x q 46 67 67 25 z d := by
  rw [sg_no (by decide), sg_si (by decide)]
  rw [← sm_24]
  rfl
theorem sm_25 {x : TxY} {q : Int} : sthB x 2 67 q = (decide ((61 : Int) = btY x (q)) && (decide ((61 : Int) = btY x (q + 1)) && true)) := by
  simp only [sthB, show (chrV 3 (Int32.ofInt (67))).toInt = 61 from by decide, show (chrV 3 (Int32.ofInt (67 + 1))).toInt = 61 from by decide]
theorem sg_25 {x : TxY} {q z d : Int} : sgLY x q 46 67 67 25 z d = if z < 2 ∧ (decide ((61 : Int) = btY x (q)) && (decide ((61 : Int) = btY x (q + 1)) && true)) = true then sgLY x q 43 70 70 26 2 25 else sgLY x q 43 70 70 26 z d := by
  rw [sg_no (by decide), sg_no (by decide), sg_si (by decide)]
  rw [← sm_25]
  rfl
theorem sm_26 {x : TxY} {q : Int} : sthB x 2 70 q = (decide ((33 : Int) = btY x (q)) && (decide ((61 : Int) = btY x (q + 1)) && true)) := by
  simp only [sthB, show (chrV 3 (Int32.ofInt (70))).toInt = 33 from by decide, show (chrV 3 (Int32.ofInt (70 + 1))).toInt = 61 from by decide]
theorem sg_26 {x : TxY} {q z d : Int} : sgLY x q 43 70 70 26 z d = if z < 2 ∧ (decide ((33 : Int) = btY x (q)) && (decide ((61 : Int) = btY x (q + 1)) && true)) = true then sgLY x q 40 73 73 27 2 26 else sgLY x q 40 73 73 27 z d := by
  rw [sg_no (by decide), sg_no (by decide), sg_si (by decide)]
  rw [← sm_26]
  rfl
theorem sm_27 {x : TxY} {q : Int} : sthB x 1 73 q = (decide ((60 : Int) = btY x (q)) && true) := by
  simp only [sthB, show (chrV 3 (Int32.ofInt (73))).toInt = 60 from by decide]
theorem sg_27 {x : TxY} {q z d : Int} : sgLY x q 40 73 73 27 z d = if z < 1 ∧ (decide ((60 : Int) = btY x (q)) && true) = true then sgLY x q 38 75 75 28 1 27 else sgLY x q 38 75 75 28 z d := by
  rw [sg_no (by decide), sg_si (by decide)]
  rw [← sm_27]
  rfl
theorem sm_28 {x : TxY} {q : Int} : sthB x 2 75 q = (decide ((60 : Int) = btY x (q)) && (decide ((61 : Int) = btY x (q + 1)) && true)) := by
  simp only [sthB, show (chrV 3 (Int32.ofInt (75))).toInt = 60 from by decide, show (chrV 3 (Int32.ofInt (75 + 1))).toInt = 61 from by decide]
theorem sg_28 {x : TxY} {q z d : Int} : sgLY x q 38 75 75 28 z d = if z < 2 ∧ (decide ((60 : Int) = btY x (q)) && (decide ((61 : Int) = btY x (q + 1)) && true)) = true then sgLY x q 35 78 78 29 2 28 else sgLY x q 35 78 78 29 z d := by
  rw [sg_no (by decide), sg_no (by decide), sg_si (by decide)]
  rw [← sm_28]
  rfl
theorem sm_29 {x : TxY} {q : Int} : sthB x 1 78 q = (decide ((62 : Int) = btY x (q)) && true) := by
  simp only [sthB, show (chrV 3 (Int32.ofInt (78))).toInt = 62 from by decide]
theorem sg_29 {x : TxY} {q z d : Int} : sgLY x q 35 78 78 29 z d = if z < 1 ∧ (decide ((62 : Int) = btY x (q)) && true) = true then sgLY x q 33 80 80 30 1 29 else sgLY x q 33 80 80 30 z d := by
  rw [sg_no (by decide), sg_si (by decide)]
  rw [← sm_29]
  rfl
theorem sm_30 {x : TxY} {q : Int} : sthB x 2 80 q = (decide ((62 : Int) = btY x (q)) && (decide ((61 : Int) = btY x (q + 1)) && true)) := by
  simp only [sthB, show (chrV 3 (Int32.ofInt (80))).toInt = 62 from by decide, show (chrV 3 (Int32.ofInt (80 + 1))).toInt = 61 from by decide]
theorem sg_30 {x : TxY} {q z d : Int} : sgLY x q 33 80 80 30 z d = if z < 2 ∧ (decide ((62 : Int) = btY x (q)) && (decide ((61 : Int) = btY x (q + 1)) && true)) = true then sgLY x q 30 83 83 31 2 30 else sgLY x q 30 83 83 31 z d := by
  rw [sg_no (by decide), sg_no (by decide), sg_si (by decide)]
  rw [← sm_30]
  rfl
theorem sm_31 {x : TxY} {q : Int} : sthB x 2 83 q = (decide ((60 : Int) = btY x (q)) && (decide ((60 : Int) = btY x (q + 1)) && true)) := by
  simp only [sthB, show (chrV 3 (Int32.ofInt (83))).toInt = 60 from by decide, show (chrV 3 (Int32.ofInt (83 + 1))).toInt = 60 from by decide]
theorem sg_31 {x : TxY} {q z d : Int} : sgLY x q 30 83 83 31 z d = if z < 2 ∧ (decide ((60 : Int) = btY x (q)) && (decide ((60 : Int) = btY x (q + 1)) && true)) = true then sgLY x q 27 86 86 32 2 31 else sgLY x q 27 86 86 32 z d := by
  rw [sg_no (by decide), sg_no (by decide), sg_si (by decide)]
  rw [← sm_31]
  rfl
theorem sm_32 {x : TxY} {q : Int} : sthB x 2 86 q = (decide ((62 : Int) = btY x (q)) && (decide ((62 : Int) = btY x (q + 1)) && true)) := by
  simp only [sthB, show (chrV 3 (Int32.ofInt (86))).toInt = 62 from by decide, show (chrV 3 (Int32.ofInt (86 + 1))).toInt = 62 from by decide]
theorem sg_32 {x : TxY} {q z d : Int} : sgLY x q 27 86 86 32 z d = if z < 2 ∧ (decide ((62 : Int) = btY x (q)) && (decide ((62 : Int) = btY x (q + 1)) && true)) = true then sgLY x q 24 89 89 33 2 32 else sgLY x q 24 89 89 33 z d := by
  rw [sg_no (by decide), sg_no (by decide), sg_si (by decide)]
  rw [← sm_32]
  rfl
theorem sm_33 {x : TxY} {q : Int} : sthB x 3 89 q = (decide ((62 : Int) = btY x (q)) && (decide ((62 : Int) = btY x (q + 1)) && (decide ((62 : Int) = btY x (q + 1 + 1)) && true))) := by
  simp only [sthB, show (chrV 3 (Int32.ofInt (89))).toInt = 62 from by decide, show (chrV 3 (Int32.ofInt (89 + 1))).toInt = 62 from by decide, show (chrV 3 (Int32.ofInt (89 + 1 + 1))).toInt = 62 from by decide]
theorem sg_33 {x : TxY} {q z d : Int} : sgLY x q 24 89 89 33 z d = if z < 3 ∧ (decide ((62 : Int) = btY x (q)) && (decide ((62 : Int) = btY x (q + 1)) && (decide ((62 : Int) = btY x (q + 1 + 1)) && true))) = true then sgLY x q 20 93 93 34 3 33 else sgLY x q 20 93 93 34 z d := by
  rw [sg_no (by decide), sg_no (by decide), sg_no (by decide), sg_si (by decide)]
  rw [← sm_33]
  rfl
theorem sm_34 {x : TxY} {q : Int} : sthB x 1 93 q = (decide ((43 : Int) = btY x (q)) && true) := by
  simp only [sthB, show (chrV 3 (Int32.ofInt (93))).toInt = 43 from by decide]
theorem sg_34 {x : TxY} {q z d : Int} : sgLY x q 20 93 93 34 z d = if z < 1 ∧ (decide ((43 : Int) = btY x (q)) && true) = true then sgLY x q 18 95 95 35 1 34 else sgLY x q 18 95 95 35 z d := by
  rw [sg_no (by decide), sg_si (by decide)]
  rw [← sm_34]
  rfl
theorem sm_35 {x : TxY} {q : Int} : sthB x 1 95 q = (decide ((45 : Int) = btY x (q)) && true) := by
  simp only [sthB, show (chrV 3 (Int32.ofInt (95))).toInt = 45 from by decide]
theorem sg_35 {x : TxY} {q z d : Int} : sgLY x q 18 95 95 35 z d = if z < 1 ∧ (decide ((45 : Int) = btY x (q)) && true) = true then sgLY x q 16 97 97 36 1 35 else sgLY x q 16 97 97 36 z d := by
  rw [sg_no (by decide), sg_si (by decide)]
  rw [← sm_35]
  rfl
theorem sm_36 {x : TxY} {q : Int} : sthB x 1 97 q = (decide ((42 : Int) = btY x (q)) && true) := by
  simp only [sthB, show (chrV 3 (Int32.ofInt (97))).toInt = 42 from by decide]
theorem sg_36 {x : TxY} {q z d : Int} : sgLY x q 16 97 97 36 z d = if z < 1 ∧ (decide ((42 : Int) = btY x (q)) && true) = true then sgLY x q 14 99 99 37 1 36 else sgLY x q 14 99 99 37 z d := by
  rw [sg_no (by decide), sg_si (by decide)]
  rw [← sm_36]
  rfl
theorem sm_37 {x : TxY} {q : Int} : sthB x 1 99 q = (decide ((47 : Int) = btY x (q)) && true) := by
  simp only [sthB, show (chrV 3 (Int32.ofInt (99))).toInt = 47 from by decide]
theorem sg_37 {x : TxY} {q z d : Int} : sgLY x q 14 99 99 37 z d = if z < 1 ∧ (decide ((47 : Int) = btY x (q)) && true) = true then sgLY x q 12 101 101 38 1 37 else sgLY x q 12 101 101 38 z d := by
  rw [sg_no (by decide), sg_si (by decide)]
  rw [← sm_37]
  rfl
theorem sm_38 {x : TxY} {q : Int} : sthB x 1 101 q = (decide ((37 : Int) = btY x (q)) && true) := by
  simp only [sthB, show (chrV 3 (Int32.ofInt (101))).toInt = 37 from by decide]
theorem sg_38 {x : TxY} {q z d : Int} : sgLY x q 12 101 101 38 z d = if z < 1 ∧ (decide ((37 : Int) = btY x (q)) && true) = true then sgLY x q 10 103 103 39 1 38 else sgLY x q 10 103 103 39 z d := by
  rw [sg_no (by decide), sg_si (by decide)]
  rw [← sm_38]
  rfl
theorem sm_39 {x : TxY} {q : Int} : sthB x 1 103 q = (decide ((33 : Int) = btY x (q)) && true) := by
  simp only [sthB, show (chrV 3 (Int32.ofInt (103))).toInt = 33 from by decide]
theorem sg_39 {x : TxY} {q z d : Int} : sgLY x q 10 103 103 39 z d = if z < 1 ∧ (decide ((33 : Int) = btY x (q)) && true) = true then sgLY x q 8 105 105 40 1 39 else sgLY x q 8 105 105 40 z d := by
  rw [sg_no (by decide), sg_si (by decide)]
  rw [← sm_39]
  rfl
theorem sm_40 {x : TxY} {q : Int} : sthB x 1 105 q = (decide ((126 : Int) = btY x (q)) && true) := by
  simp only [sthB, show (chrV 3 (Int32.ofInt (105))).toInt = 126 from by decide]
theorem sg_40 {x : TxY} {q z d : Int} : sgLY x q 8 105 105 40 z d = if z < 1 ∧ (decide ((126 : Int) = btY x (q)) && true) = true then sgLY x q 6 107 107 41 1 40 else sgLY x q 6 107 107 41 z d := by
  rw [sg_no (by decide), sg_si (by decide)]
  rw [← sm_40]
  rfl
theorem sm_41 {x : TxY} {q : Int} : sthB x 2 107 q = (decide ((43 : Int) = btY x (q)) && (decide ((43 : Int) = btY x (q + 1)) && true)) := by
  simp only [sthB, show (chrV 3 (Int32.ofInt (107))).toInt = 43 from by decide, show (chrV 3 (Int32.ofInt (107 + 1))).toInt = 43 from by decide]
theorem sg_41 {x : TxY} {q z d : Int} : sgLY x q 6 107 107 41 z d = if z < 2 ∧ (decide ((43 : Int) = btY x (q)) && (decide ((43 : Int) = btY x (q + 1)) && true)) = true then sgLY x q 3 110 110 42 2 41 else sgLY x q 3 110 110 42 z d := by
  rw [sg_no (by decide), sg_no (by decide), sg_si (by decide)]
  rw [← sm_41]
  rfl
theorem sm_42 {x : TxY} {q : Int} : sthB x 2 110 q = (decide ((45 : Int) = btY x (q)) && (decide ((45 : Int) = btY x (q + 1)) && true)) := by
  simp only [sthB, show (chrV 3 (Int32.ofInt (110))).toInt = 45 from by decide, show (chrV 3 (Int32.ofInt (110 + 1))).toInt = 45 from by decide]
theorem sg_42 {x : TxY} {q z d : Int} : sgLY x q 3 110 110 42 z d = if z < 2 ∧ (decide ((45 : Int) = btY x (q)) && (decide ((45 : Int) = btY x (q + 1)) && true)) = true then sgLY x q 0 113 113 43 2 42 else sgLY x q 0 113 113 43 z d := by
  rw [sg_no (by decide), sg_no (by decide), sg_si (by decide)]
  rw [← sm_42]
  rfl
theorem sg_z {x : TxY} {q c b s z d : Int} : sgLY x q 0 c b s z d = (z, d) := rfl
theorem bt_c {x : TxY} {q n : Int} : (n = btY x q) ↔ (btY x q = n) := eq_comm
abbrev sgAY (x : TxY) (q : Int) : Int × Int := sgnY (btY x q) (btY x (q + 1)) (btY x (q + 1 + 1)) (btY x (q + 1 + 1 + 1))
theorem sgb_33 {x : TxY} {q : Int} (h : btY x q = 33) : sgLY x q 113 0 0 0 0 0 = sgAY x q := by
  rcases Decidable.em (btY x (q + 1) = 61) with h0 | h0 <;>
  simp [sg_z, bt_c, sg_0, sg_1, sg_2, sg_3, sg_4, sg_5, sg_6, sg_7, sg_8, sg_9, sg_10, sg_11, sg_12, sg_13, sg_14, sg_15, sg_16, sg_17, sg_18, sg_19, sg_20, sg_21, sg_22, sg_23, sg_24, sg_25, sg_26, sg_27, sg_28, sg_29, sg_30, sg_31, sg_32, sg_33, sg_34, sg_35, sg_36, sg_37, sg_38, sg_39, sg_40, sg_41, sg_42, sgnY, sg1Y, h, h0]
theorem sgb_37 {x : TxY} {q : Int} (h : btY x q = 37) : sgLY x q 113 0 0 0 0 0 = sgAY x q := by
  rcases Decidable.em (btY x (q + 1) = 61) with h0 | h0 <;>
  simp [sg_z, bt_c, sg_0, sg_1, sg_2, sg_3, sg_4, sg_5, sg_6, sg_7, sg_8, sg_9, sg_10, sg_11, sg_12, sg_13, sg_14, sg_15, sg_16, sg_17, sg_18, sg_19, sg_20, sg_21, sg_22, sg_23, sg_24, sg_25, sg_26, sg_27, sg_28, sg_29, sg_30, sg_31, sg_32, sg_33, sg_34, sg_35, sg_36, sg_37, sg_38, sg_39, sg_40, sg_41, sg_42, sgnY, sg1Y, h, h0]
theorem sgb_38 {x : TxY} {q : Int} (h : btY x q = 38) : sgLY x q 113 0 0 0 0 0 = sgAY x q := by
  rcases Decidable.em (btY x (q + 1) = 38) with h0 | h0 <;>
  rcases Decidable.em (btY x (q + 1) = 61) with h1 | h1 <;>
  simp [sg_z, bt_c, sg_0, sg_1, sg_2, sg_3, sg_4, sg_5, sg_6, sg_7, sg_8, sg_9, sg_10, sg_11, sg_12, sg_13, sg_14, sg_15, sg_16, sg_17, sg_18, sg_19, sg_20, sg_21, sg_22, sg_23, sg_24, sg_25, sg_26, sg_27, sg_28, sg_29, sg_30, sg_31, sg_32, sg_33, sg_34, sg_35, sg_36, sg_37, sg_38, sg_39, sg_40, sg_41, sg_42, sgnY, sg1Y, h, h0, h1]
theorem sgb_40 {x : TxY} {q : Int} (h : btY x q = 40) : sgLY x q 113 0 0 0 0 0 = sgAY x q := by
  simp [sg_z, bt_c, sg_0, sg_1, sg_2, sg_3, sg_4, sg_5, sg_6, sg_7, sg_8, sg_9, sg_10, sg_11, sg_12, sg_13, sg_14, sg_15, sg_16, sg_17, sg_18, sg_19, sg_20, sg_21, sg_22, sg_23, sg_24, sg_25, sg_26, sg_27, sg_28, sg_29, sg_30, sg_31, sg_32, sg_33, sg_34, sg_35, sg_36, sg_37, sg_38, sg_39, sg_40, sg_41, sg_42, sgnY, sg1Y, h]
theorem sgb_41 {x : TxY} {q : Int} (h : btY x q = 41) : sgLY x q 113 0 0 0 0 0 = sgAY x q := by
  simp [sg_z, bt_c, sg_0, sg_1, sg_2, sg_3, sg_4, sg_5, sg_6, sg_7, sg_8, sg_9, sg_10, sg_11, sg_12, sg_13, sg_14, sg_15, sg_16, sg_17, sg_18, sg_19, sg_20, sg_21, sg_22, sg_23, sg_24, sg_25, sg_26, sg_27, sg_28, sg_29, sg_30, sg_31, sg_32, sg_33, sg_34, sg_35, sg_36, sg_37, sg_38, sg_39, sg_40, sg_41, sg_42, sgnY, sg1Y, h]
theorem sgb_42 {x : TxY} {q : Int} (h : btY x q = 42) : sgLY x q 113 0 0 0 0 0 = sgAY x q := by
  rcases Decidable.em (btY x (q + 1) = 61) with h0 | h0 <;>
  simp [sg_z, bt_c, sg_0, sg_1, sg_2, sg_3, sg_4, sg_5, sg_6, sg_7, sg_8, sg_9, sg_10, sg_11, sg_12, sg_13, sg_14, sg_15, sg_16, sg_17, sg_18, sg_19, sg_20, sg_21, sg_22, sg_23, sg_24, sg_25, sg_26, sg_27, sg_28, sg_29, sg_30, sg_31, sg_32, sg_33, sg_34, sg_35, sg_36, sg_37, sg_38, sg_39, sg_40, sg_41, sg_42, sgnY, sg1Y, h, h0]
theorem sgb_43 {x : TxY} {q : Int} (h : btY x q = 43) : sgLY x q 113 0 0 0 0 0 = sgAY x q := by
  rcases Decidable.em (btY x (q + 1) = 43) with h0 | h0 <;>
  rcases Decidable.em (btY x (q + 1) = 61) with h1 | h1 <;>
  simp [sg_z, bt_c, sg_0, sg_1, sg_2, sg_3, sg_4, sg_5, sg_6, sg_7, sg_8, sg_9, sg_10, sg_11, sg_12, sg_13, sg_14, sg_15, sg_16, sg_17, sg_18, sg_19, sg_20, sg_21, sg_22, sg_23, sg_24, sg_25, sg_26, sg_27, sg_28, sg_29, sg_30, sg_31, sg_32, sg_33, sg_34, sg_35, sg_36, sg_37, sg_38, sg_39, sg_40, sg_41, sg_42, sgnY, sg1Y, h, h0, h1]
theorem sgb_44 {x : TxY} {q : Int} (h : btY x q = 44) : sgLY x q 113 0 0 0 0 0 = sgAY x q := by
  simp [sg_z, bt_c, sg_0, sg_1, sg_2, sg_3, sg_4, sg_5, sg_6, sg_7, sg_8, sg_9, sg_10, sg_11, sg_12, sg_13, sg_14, sg_15, sg_16, sg_17, sg_18, sg_19, sg_20, sg_21, sg_22, sg_23, sg_24, sg_25, sg_26, sg_27, sg_28, sg_29, sg_30, sg_31, sg_32, sg_33, sg_34, sg_35, sg_36, sg_37, sg_38, sg_39, sg_40, sg_41, sg_42, sgnY, sg1Y, h]
theorem sgb_45 {x : TxY} {q : Int} (h : btY x q = 45) : sgLY x q 113 0 0 0 0 0 = sgAY x q := by
  rcases Decidable.em (btY x (q + 1) = 45) with h0 | h0 <;>
  rcases Decidable.em (btY x (q + 1) = 61) with h1 | h1 <;>
  simp [sg_z, bt_c, sg_0, sg_1, sg_2, sg_3, sg_4, sg_5, sg_6, sg_7, sg_8, sg_9, sg_10, sg_11, sg_12, sg_13, sg_14, sg_15, sg_16, sg_17, sg_18, sg_19, sg_20, sg_21, sg_22, sg_23, sg_24, sg_25, sg_26, sg_27, sg_28, sg_29, sg_30, sg_31, sg_32, sg_33, sg_34, sg_35, sg_36, sg_37, sg_38, sg_39, sg_40, sg_41, sg_42, sgnY, sg1Y, h, h0, h1]
theorem sgb_47 {x : TxY} {q : Int} (h : btY x q = 47) : sgLY x q 113 0 0 0 0 0 = sgAY x q := by
  rcases Decidable.em (btY x (q + 1) = 61) with h0 | h0 <;>
  simp [sg_z, bt_c, sg_0, sg_1, sg_2, sg_3, sg_4, sg_5, sg_6, sg_7, sg_8, sg_9, sg_10, sg_11, sg_12, sg_13, sg_14, sg_15, sg_16, sg_17, sg_18, sg_19, sg_20, sg_21, sg_22, sg_23, sg_24, sg_25, sg_26, sg_27, sg_28, sg_29, sg_30, sg_31, sg_32, sg_33, sg_34, sg_35, sg_36, sg_37, sg_38, sg_39, sg_40, sg_41, sg_42, sgnY, sg1Y, h, h0]
theorem sgb_58 {x : TxY} {q : Int} (h : btY x q = 58) : sgLY x q 113 0 0 0 0 0 = sgAY x q := by
  simp [sg_z, bt_c, sg_0, sg_1, sg_2, sg_3, sg_4, sg_5, sg_6, sg_7, sg_8, sg_9, sg_10, sg_11, sg_12, sg_13, sg_14, sg_15, sg_16, sg_17, sg_18, sg_19, sg_20, sg_21, sg_22, sg_23, sg_24, sg_25, sg_26, sg_27, sg_28, sg_29, sg_30, sg_31, sg_32, sg_33, sg_34, sg_35, sg_36, sg_37, sg_38, sg_39, sg_40, sg_41, sg_42, sgnY, sg1Y, h]
theorem sgb_59 {x : TxY} {q : Int} (h : btY x q = 59) : sgLY x q 113 0 0 0 0 0 = sgAY x q := by
  simp [sg_z, bt_c, sg_0, sg_1, sg_2, sg_3, sg_4, sg_5, sg_6, sg_7, sg_8, sg_9, sg_10, sg_11, sg_12, sg_13, sg_14, sg_15, sg_16, sg_17, sg_18, sg_19, sg_20, sg_21, sg_22, sg_23, sg_24, sg_25, sg_26, sg_27, sg_28, sg_29, sg_30, sg_31, sg_32, sg_33, sg_34, sg_35, sg_36, sg_37, sg_38, sg_39, sg_40, sg_41, sg_42, sgnY, sg1Y, h]
theorem sgb_60 {x : TxY} {q : Int} (h : btY x q = 60) : sgLY x q 113 0 0 0 0 0 = sgAY x q := by
  rcases Decidable.em (btY x (q + 1) = 60) with h0 | h0 <;>
  rcases Decidable.em (btY x (q + 1) = 61) with h1 | h1 <;>
  rcases Decidable.em (btY x (q + 1 + 1) = 61) with h2 | h2 <;>
  simp [sg_z, bt_c, sg_0, sg_1, sg_2, sg_3, sg_4, sg_5, sg_6, sg_7, sg_8, sg_9, sg_10, sg_11, sg_12, sg_13, sg_14, sg_15, sg_16, sg_17, sg_18, sg_19, sg_20, sg_21, sg_22, sg_23, sg_24, sg_25, sg_26, sg_27, sg_28, sg_29, sg_30, sg_31, sg_32, sg_33, sg_34, sg_35, sg_36, sg_37, sg_38, sg_39, sg_40, sg_41, sg_42, sgnY, sg1Y, h, h0, h1, h2]
theorem sgb_61 {x : TxY} {q : Int} (h : btY x q = 61) : sgLY x q 113 0 0 0 0 0 = sgAY x q := by
  rcases Decidable.em (btY x (q + 1) = 61) with h0 | h0 <;>
  simp [sg_z, bt_c, sg_0, sg_1, sg_2, sg_3, sg_4, sg_5, sg_6, sg_7, sg_8, sg_9, sg_10, sg_11, sg_12, sg_13, sg_14, sg_15, sg_16, sg_17, sg_18, sg_19, sg_20, sg_21, sg_22, sg_23, sg_24, sg_25, sg_26, sg_27, sg_28, sg_29, sg_30, sg_31, sg_32, sg_33, sg_34, sg_35, sg_36, sg_37, sg_38, sg_39, sg_40, sg_41, sg_42, sgnY, sg1Y, h, h0]
theorem sgb_62 {x : TxY} {q : Int} (h : btY x q = 62) : sgLY x q 113 0 0 0 0 0 = sgAY x q := by
  rcases Decidable.em (btY x (q + 1) = 61) with h0 | h0 <;>
  rcases Decidable.em (btY x (q + 1) = 62) with h1 | h1 <;>
  rcases Decidable.em (btY x (q + 1 + 1) = 61) with h2 | h2 <;>
  rcases Decidable.em (btY x (q + 1 + 1) = 62) with h3 | h3 <;>
  rcases Decidable.em (btY x (q + 1 + 1 + 1) = 61) with h4 | h4 <;>
  simp [sg_z, bt_c, sg_0, sg_1, sg_2, sg_3, sg_4, sg_5, sg_6, sg_7, sg_8, sg_9, sg_10, sg_11, sg_12, sg_13, sg_14, sg_15, sg_16, sg_17, sg_18, sg_19, sg_20, sg_21, sg_22, sg_23, sg_24, sg_25, sg_26, sg_27, sg_28, sg_29, sg_30, sg_31, sg_32, sg_33, sg_34, sg_35, sg_36, sg_37, sg_38, sg_39, sg_40, sg_41, sg_42, sgnY, sg1Y, h, h0, h1, h2, h3, h4]
theorem sgb_63 {x : TxY} {q : Int} (h : btY x q = 63) : sgLY x q 113 0 0 0 0 0 = sgAY x q := by
  simp [sg_z, bt_c, sg_0, sg_1, sg_2, sg_3, sg_4, sg_5, sg_6, sg_7, sg_8, sg_9, sg_10, sg_11, sg_12, sg_13, sg_14, sg_15, sg_16, sg_17, sg_18, sg_19, sg_20, sg_21, sg_22, sg_23, sg_24, sg_25, sg_26, sg_27, sg_28, sg_29, sg_30, sg_31, sg_32, sg_33, sg_34, sg_35, sg_36, sg_37, sg_38, sg_39, sg_40, sg_41, sg_42, sgnY, sg1Y, h]
theorem sgb_94 {x : TxY} {q : Int} (h : btY x q = 94) : sgLY x q 113 0 0 0 0 0 = sgAY x q := by
  rcases Decidable.em (btY x (q + 1) = 61) with h0 | h0 <;>
  simp [sg_z, bt_c, sg_0, sg_1, sg_2, sg_3, sg_4, sg_5, sg_6, sg_7, sg_8, sg_9, sg_10, sg_11, sg_12, sg_13, sg_14, sg_15, sg_16, sg_17, sg_18, sg_19, sg_20, sg_21, sg_22, sg_23, sg_24, sg_25, sg_26, sg_27, sg_28, sg_29, sg_30, sg_31, sg_32, sg_33, sg_34, sg_35, sg_36, sg_37, sg_38, sg_39, sg_40, sg_41, sg_42, sgnY, sg1Y, h, h0]
theorem sgb_123 {x : TxY} {q : Int} (h : btY x q = 123) : sgLY x q 113 0 0 0 0 0 = sgAY x q := by
  simp [sg_z, bt_c, sg_0, sg_1, sg_2, sg_3, sg_4, sg_5, sg_6, sg_7, sg_8, sg_9, sg_10, sg_11, sg_12, sg_13, sg_14, sg_15, sg_16, sg_17, sg_18, sg_19, sg_20, sg_21, sg_22, sg_23, sg_24, sg_25, sg_26, sg_27, sg_28, sg_29, sg_30, sg_31, sg_32, sg_33, sg_34, sg_35, sg_36, sg_37, sg_38, sg_39, sg_40, sg_41, sg_42, sgnY, sg1Y, h]
theorem sgb_124 {x : TxY} {q : Int} (h : btY x q = 124) : sgLY x q 113 0 0 0 0 0 = sgAY x q := by
  rcases Decidable.em (btY x (q + 1) = 61) with h0 | h0 <;>
  rcases Decidable.em (btY x (q + 1) = 124) with h1 | h1 <;>
  simp [sg_z, bt_c, sg_0, sg_1, sg_2, sg_3, sg_4, sg_5, sg_6, sg_7, sg_8, sg_9, sg_10, sg_11, sg_12, sg_13, sg_14, sg_15, sg_16, sg_17, sg_18, sg_19, sg_20, sg_21, sg_22, sg_23, sg_24, sg_25, sg_26, sg_27, sg_28, sg_29, sg_30, sg_31, sg_32, sg_33, sg_34, sg_35, sg_36, sg_37, sg_38, sg_39, sg_40, sg_41, sg_42, sgnY, sg1Y, h, h0, h1]
theorem sgb_125 {x : TxY} {q : Int} (h : btY x q = 125) : sgLY x q 113 0 0 0 0 0 = sgAY x q := by
  simp [sg_z, bt_c, sg_0, sg_1, sg_2, sg_3, sg_4, sg_5, sg_6, sg_7, sg_8, sg_9, sg_10, sg_11, sg_12, sg_13, sg_14, sg_15, sg_16, sg_17, sg_18, sg_19, sg_20, sg_21, sg_22, sg_23, sg_24, sg_25, sg_26, sg_27, sg_28, sg_29, sg_30, sg_31, sg_32, sg_33, sg_34, sg_35, sg_36, sg_37, sg_38, sg_39, sg_40, sg_41, sg_42, sgnY, sg1Y, h]
theorem sgb_126 {x : TxY} {q : Int} (h : btY x q = 126) : sgLY x q 113 0 0 0 0 0 = sgAY x q := by
  simp [sg_z, bt_c, sg_0, sg_1, sg_2, sg_3, sg_4, sg_5, sg_6, sg_7, sg_8, sg_9, sg_10, sg_11, sg_12, sg_13, sg_14, sg_15, sg_16, sg_17, sg_18, sg_19, sg_20, sg_21, sg_22, sg_23, sg_24, sg_25, sg_26, sg_27, sg_28, sg_29, sg_30, sg_31, sg_32, sg_33, sg_34, sg_35, sg_36, sg_37, sg_38, sg_39, sg_40, sg_41, sg_42, sgnY, sg1Y, h]
theorem sg_all {x : TxY} {q : Int} : (sgLY x q 113 0 0 0 0 0).1 = (sgAY x q).1 ∧ (0 < (sgAY x q).1 → (sgLY x q 113 0 0 0 0 0).2 = (sgAY x q).2) := by
  rcases Decidable.em (btY x q = 33) with h | k33
  · rw [sgb_33 h]; exact ⟨rfl, fun _ => rfl⟩
  rcases Decidable.em (btY x q = 37) with h | k37
  · rw [sgb_37 h]; exact ⟨rfl, fun _ => rfl⟩
  rcases Decidable.em (btY x q = 38) with h | k38
  · rw [sgb_38 h]; exact ⟨rfl, fun _ => rfl⟩
  rcases Decidable.em (btY x q = 40) with h | k40
  · rw [sgb_40 h]; exact ⟨rfl, fun _ => rfl⟩
  rcases Decidable.em (btY x q = 41) with h | k41
  · rw [sgb_41 h]; exact ⟨rfl, fun _ => rfl⟩
  rcases Decidable.em (btY x q = 42) with h | k42
  · rw [sgb_42 h]; exact ⟨rfl, fun _ => rfl⟩
  rcases Decidable.em (btY x q = 43) with h | k43
  · rw [sgb_43 h]; exact ⟨rfl, fun _ => rfl⟩
  rcases Decidable.em (btY x q = 44) with h | k44
  · rw [sgb_44 h]; exact ⟨rfl, fun _ => rfl⟩
  rcases Decidable.em (btY x q = 45) with h | k45
  · rw [sgb_45 h]; exact ⟨rfl, fun _ => rfl⟩
  rcases Decidable.em (btY x q = 47) with h | k47
  · rw [sgb_47 h]; exact ⟨rfl, fun _ => rfl⟩
  rcases Decidable.em (btY x q = 58) with h | k58
  · rw [sgb_58 h]; exact ⟨rfl, fun _ => rfl⟩
  rcases Decidable.em (btY x q = 59) with h | k59
  · rw [sgb_59 h]; exact ⟨rfl, fun _ => rfl⟩
  rcases Decidable.em (btY x q = 60) with h | k60
  · rw [sgb_60 h]; exact ⟨rfl, fun _ => rfl⟩
  rcases Decidable.em (btY x q = 61) with h | k61
  · rw [sgb_61 h]; exact ⟨rfl, fun _ => rfl⟩
  rcases Decidable.em (btY x q = 62) with h | k62
  · rw [sgb_62 h]; exact ⟨rfl, fun _ => rfl⟩
  rcases Decidable.em (btY x q = 63) with h | k63
  · rw [sgb_63 h]; exact ⟨rfl, fun _ => rfl⟩
  rcases Decidable.em (btY x q = 94) with h | k94
  · rw [sgb_94 h]; exact ⟨rfl, fun _ => rfl⟩
  rcases Decidable.em (btY x q = 123) with h | k123
  · rw [sgb_123 h]; exact ⟨rfl, fun _ => rfl⟩
  rcases Decidable.em (btY x q = 124) with h | k124
  · rw [sgb_124 h]; exact ⟨rfl, fun _ => rfl⟩
  rcases Decidable.em (btY x q = 125) with h | k125
  · rw [sgb_125 h]; exact ⟨rfl, fun _ => rfl⟩
  rcases Decidable.em (btY x q = 126) with h | k126
  · rw [sgb_126 h]; exact ⟨rfl, fun _ => rfl⟩
  simp [sg_z, bt_c, sg_0, sg_1, sg_2, sg_3, sg_4, sg_5, sg_6, sg_7, sg_8, sg_9, sg_10, sg_11, sg_12, sg_13, sg_14, sg_15, sg_16, sg_17, sg_18, sg_19, sg_20, sg_21, sg_22, sg_23, sg_24, sg_25, sg_26, sg_27, sg_28, sg_29, sg_30, sg_31, sg_32, sg_33, sg_34, sg_35, sg_36, sg_37, sg_38, sg_39, sg_40, sg_41, sg_42, sgnY, sg1Y, k33, k37, k38, k40, k41, k42, k43, k44, k45, k47, k58, k59, k60, k61, k62, k63, k94, k123, k124, k125, k126]
