/-! the reference's flow: one code of an S -/
def laS (σ : RS) (u p : Int32) : RS := sI (sI σ 112 u) 113 p
theorem la_id {σ : RS} : laS σ (gI σ 112) (gI σ 113) = σ := by unfold laS; rw [sI_id, sI_id]
def alR (σ : RS) (c : Int32) : Int32 := if ¬ aI σ 84 c.toNatClampNeg = 0 ∧ ¬ aL σ 85 c.toNatClampNeg = 0 then 1 else 0
def neR (σ : RS) (c : Int32) : Int32 := if ¬ aI σ 84 c.toNatClampNeg = 0 ∧ aL σ 85 c.toNatClampNeg = 0 then 1 else 0
def fs_20 (σ : RS) (c : Int32) : RS × Int32 := (if (gI σ 92) = 0 then (if 0 ≤ (gI σ 117) then (if ((aI σ 109) (((aI σ 22) (c).toNatClampNeg)).toNatClampNeg) = 0 then ((sM (sA (sI σ 92 1) 109 (upd (aI σ 109) (((aI σ 22) (c).toNatClampNeg)).toNatClampNeg 1)) 110 (vp_updL (aL σ 110) (((aI σ 22) (c).toNatClampNeg)).toNatClampNeg (nowR (sA (sI σ 92 1) 109 (upd (aI σ 109) (((aI σ 22) (c).toNatClampNeg)).toNatClampNeg 1))))), (c + 1)) else ((sI σ 92 1), (c + 1))) else (if ((aI σ 109) (((aI σ 22) (c).toNatClampNeg)).toNatClampNeg) = 0 then ((sM (sA (sI (sI σ 117 c) 92 1) 109 (upd (aI σ 109) (((aI σ 22) (c).toNatClampNeg)).toNatClampNeg 1)) 110 (vp_updL (aL σ 110) (((aI σ 22) (c).toNatClampNeg)).toNatClampNeg (nowR (sA (sI (sI σ 117 c) 92 1) 109 (upd (aI σ 109) (((aI σ 22) (c).toNatClampNeg)).toNatClampNeg 1))))), (c + 1)) else ((sI (sI σ 117 c) 92 1), (c + 1)))) else (if ((aI σ 109) (((aI σ 22) (c).toNatClampNeg)).toNatClampNeg) = 0 then ((sM (sA (sI σ 92 1) 109 (upd (aI σ 109) (((aI σ 22) (c).toNatClampNeg)).toNatClampNeg 1)) 110 (vp_updL (aL σ 110) (((aI σ 22) (c).toNatClampNeg)).toNatClampNeg (nowR (sA (sI σ 92 1) 109 (upd (aI σ 109) (((aI σ 22) (c).toNatClampNeg)).toNatClampNeg 1))))), (c + 1)) else ((sI σ 92 1), (c + 1))))
def fs_21 (σ : RS) (c : Int32) : RS × Int32 := ((beS σ (nowR σ)), (c + 1))
def fs_22 (σ : RS) (c : Int32) : RS × Int32 := (if ((aI σ 21) (c).toNatClampNeg) = 1 then ((beS σ ((nowR σ) ||| ((1 : Int64) <<< ((((aI σ 20) (c).toNatClampNeg)).toInt64 &&& 63)))), (c + 1)) else ((beS σ ((nowR σ) &&& (((1 : Int64) <<< ((((aI σ 20) (c).toNatClampNeg)).toInt64 &&& 63)) ^^^ (Int64.ofInt (-1))))), (c + 1)))
def fs_23 (σ : RS) (c : Int32) : RS × Int32 := ((sI (beS (sM σ 98 (vp_updL (aL σ 98) (((aI σ 20) (c).toNatClampNeg)).toNatClampNeg (gL σ 94))) (gL σ 93)) 92 1), (c + 1))
def fs_24 (σ : RS) (c : Int32) : RS × Int32 := ((sI (beS (sM (sA σ 95 (upd (aI σ 95) (((aI σ 20) (c).toNatClampNeg)).toNatClampNeg (gI σ 92))) 96 (vp_updL (aL σ 96) (((aI σ 20) (c).toNatClampNeg)).toNatClampNeg (nowR (sA σ 95 (upd (aI σ 95) (((aI σ 20) (c).toNatClampNeg)).toNatClampNeg (gI σ 92)))))) ((aL σ 98) (((aI σ 20) (c).toNatClampNeg)).toNatClampNeg)) 92 1), (c + 1))
def fs_25 (σ : RS) (c : Int32) : RS × Int32 := (if ((aI σ 56) (((aI σ 20) (c).toNatClampNeg)).toNatClampNeg) < 0 then ((sI (beS σ ((nowR σ) &&& ((aL σ 98) (((aI σ 20) (c).toNatClampNeg)).toNatClampNeg))) 92 1), (c + 1)) else (if (gI (beS σ ((nowR σ) &&& ((aL σ 96) (((aI σ 20) (c).toNatClampNeg)).toNatClampNeg))) 92) = 0 then (if ((aI (beS σ ((nowR σ) &&& ((aL σ 96) (((aI σ 20) (c).toNatClampNeg)).toNatClampNeg))) 95) (((aI σ 20) (c).toNatClampNeg)).toNatClampNeg) = 0 then ((sI (beS σ ((nowR σ) &&& ((aL σ 96) (((aI σ 20) (c).toNatClampNeg)).toNatClampNeg))) 92 0), (c + 1)) else ((sI (beS σ ((nowR σ) &&& ((aL σ 96) (((aI σ 20) (c).toNatClampNeg)).toNatClampNeg))) 92 1), (c + 1))) else ((sI (beS σ ((nowR σ) &&& ((aL σ 96) (((aI σ 20) (c).toNatClampNeg)).toNatClampNeg))) 92 1), (c + 1))))
def fs_27 (σ : RS) (c : Int32) : RS × Int32 := (if (neR σ c) = 0 then ((sI (beS (sA (sM σ 98 (vp_updL (aL σ 98) (((aI σ 20) (c).toNatClampNeg)).toNatClampNeg (gL σ 94))) 97 (upd (aI σ 97) (((aI σ 20) (c).toNatClampNeg)).toNatClampNeg (alR σ c))) (gL σ 93)) 92 1), (c + 1)) else ((sI (beS (sA (sM σ 98 (vp_updL (aL σ 98) (((aI σ 20) (c).toNatClampNeg)).toNatClampNeg (gL σ 94))) 97 (upd (aI σ 97) (((aI σ 20) (c).toNatClampNeg)).toNatClampNeg (alR σ c))) (gL σ 93)) 92 0), (c + 1)))
def fs_28 (σ : RS) (c : Int32) : RS × Int32 := (if ((aI (beS (coS (coS σ ((aI σ 20) (c).toNatClampNeg) 1 (gI σ 103).toInt.toNat) ((aI σ 20) (c).toNatClampNeg) 0 (gI (coS σ ((aI σ 20) (c).toNatClampNeg) 1 (gI σ 103).toInt.toNat) 103).toInt.toNat) (((aL (coS σ ((aI σ 20) (c).toNatClampNeg) 1 (gI σ 103).toInt.toNat) 98) (((aI σ 20) (c).toNatClampNeg)).toNatClampNeg) &&& (coF (coS σ ((aI σ 20) (c).toNatClampNeg) 1 (gI σ 103).toInt.toNat) ((aI σ 20) (c).toNatClampNeg) 0 (gI (coS σ ((aI σ 20) (c).toNatClampNeg) 1 (gI σ 103).toInt.toNat) 103).toInt.toNat).1)) 97) (((aI σ 20) (c).toNatClampNeg)).toNatClampNeg) = 0 then ((sI (beS (coS (coS σ ((aI σ 20) (c).toNatClampNeg) 1 (gI σ 103).toInt.toNat) ((aI σ 20) (c).toNatClampNeg) 0 (gI (coS σ ((aI σ 20) (c).toNatClampNeg) 1 (gI σ 103).toInt.toNat) 103).toInt.toNat) (((aL (coS σ ((aI σ 20) (c).toNatClampNeg) 1 (gI σ 103).toInt.toNat) 98) (((aI σ 20) (c).toNatClampNeg)).toNatClampNeg) &&& (coF (coS σ ((aI σ 20) (c).toNatClampNeg) 1 (gI σ 103).toInt.toNat) ((aI σ 20) (c).toNatClampNeg) 0 (gI (coS σ ((aI σ 20) (c).toNatClampNeg) 1 (gI σ 103).toInt.toNat) 103).toInt.toNat).1)) 92 1), (c + 1)) else (if (gI (beS (coS (coS σ ((aI σ 20) (c).toNatClampNeg) 1 (gI σ 103).toInt.toNat) ((aI σ 20) (c).toNatClampNeg) 0 (gI (coS σ ((aI σ 20) (c).toNatClampNeg) 1 (gI σ 103).toInt.toNat) 103).toInt.toNat) (((aL (coS σ ((aI σ 20) (c).toNatClampNeg) 1 (gI σ 103).toInt.toNat) 98) (((aI σ 20) (c).toNatClampNeg)).toNatClampNeg) &&& (coF (coS σ ((aI σ 20) (c).toNatClampNeg) 1 (gI σ 103).toInt.toNat) ((aI σ 20) (c).toNatClampNeg) 0 (gI (coS σ ((aI σ 20) (c).toNatClampNeg) 1 (gI σ 103).toInt.toNat) 103).toInt.toNat).1)) 116) = 0 then ((sI (beS (coS (coS σ ((aI σ 20) (c).toNatClampNeg) 1 (gI σ 103).toInt.toNat) ((aI σ 20) (c).toNatClampNeg) 0 (gI (coS σ ((aI σ 20) (c).toNatClampNeg) 1 (gI σ 103).toInt.toNat) 103).toInt.toNat) (((aL (coS σ ((aI σ 20) (c).toNatClampNeg) 1 (gI σ 103).toInt.toNat) 98) (((aI σ 20) (c).toNatClampNeg)).toNatClampNeg) &&& (coF (coS σ ((aI σ 20) (c).toNatClampNeg) 1 (gI σ 103).toInt.toNat) ((aI σ 20) (c).toNatClampNeg) 0 (gI (coS σ ((aI σ 20) (c).toNatClampNeg) 1 (gI σ 103).toInt.toNat) 103).toInt.toNat).1)) 92 0), (c + 1)) else ((sI (beS (coS (coS σ ((aI σ 20) (c).toNatClampNeg) 1 (gI σ 103).toInt.toNat) ((aI σ 20) (c).toNatClampNeg) 0 (gI (coS σ ((aI σ 20) (c).toNatClampNeg) 1 (gI σ 103).toInt.toNat) 103).toInt.toNat) (((aL (coS σ ((aI σ 20) (c).toNatClampNeg) 1 (gI σ 103).toInt.toNat) 98) (((aI σ 20) (c).toNatClampNeg)).toNatClampNeg) &&& (coF (coS σ ((aI σ 20) (c).toNatClampNeg) 1 (gI σ 103).toInt.toNat) ((aI σ 20) (c).toNatClampNeg) 0 (gI (coS σ ((aI σ 20) (c).toNatClampNeg) 1 (gI σ 103).toInt.toNat) 103).toInt.toNat).1)) 92 1), (c + 1))))
def fs_30 (σ : RS) (c : Int32) : RS × Int32 := (if (gI (beS (coS σ ((aI σ 20) (c).toNatClampNeg) 1 (gI σ 103).toInt.toNat) ((nowR σ) &&& (coF σ ((aI σ 20) (c).toNatClampNeg) 1 (gI σ 103).toInt.toNat).1)) 92) = 0 then (if (gI (beS (coS σ ((aI σ 20) (c).toNatClampNeg) 1 (gI σ 103).toInt.toNat) ((nowR σ) &&& (coF σ ((aI σ 20) (c).toNatClampNeg) 1 (gI σ 103).toInt.toNat).1)) 116) = 0 then ((sA (beS (coS σ ((aI σ 20) (c).toNatClampNeg) 1 (gI σ 103).toInt.toNat) ((nowR σ) &&& (coF σ ((aI σ 20) (c).toNatClampNeg) 1 (gI σ 103).toInt.toNat).1)) 95 (upd (aI (beS (coS σ ((aI σ 20) (c).toNatClampNeg) 1 (gI σ 103).toInt.toNat) ((nowR σ) &&& (coF σ ((aI σ 20) (c).toNatClampNeg) 1 (gI σ 103).toInt.toNat).1)) 95) (((aI σ 20) (c).toNatClampNeg)).toNatClampNeg 0)), (c + 1)) else ((sA (beS (coS σ ((aI σ 20) (c).toNatClampNeg) 1 (gI σ 103).toInt.toNat) ((nowR σ) &&& (coF σ ((aI σ 20) (c).toNatClampNeg) 1 (gI σ 103).toInt.toNat).1)) 95 (upd (aI (beS (coS σ ((aI σ 20) (c).toNatClampNeg) 1 (gI σ 103).toInt.toNat) ((nowR σ) &&& (coF σ ((aI σ 20) (c).toNatClampNeg) 1 (gI σ 103).toInt.toNat).1)) 95) (((aI σ 20) (c).toNatClampNeg)).toNatClampNeg 1)), (c + 1))) else ((sA (beS (coS σ ((aI σ 20) (c).toNatClampNeg) 1 (gI σ 103).toInt.toNat) ((nowR σ) &&& (coF σ ((aI σ 20) (c).toNatClampNeg) 1 (gI σ 103).toInt.toNat).1)) 95 (upd (aI (beS (coS σ ((aI σ 20) (c).toNatClampNeg) 1 (gI σ 103).toInt.toNat) ((nowR σ) &&& (coF σ ((aI σ 20) (c).toNatClampNeg) 1 (gI σ 103).toInt.toNat).1)) 95) (((aI σ 20) (c).toNatClampNeg)).toNatClampNeg 1)), (c + 1)))
def fs_31 (σ : RS) (c : Int32) : RS × Int32 := (if ((aI (beS (coS σ ((aI σ 20) (c).toNatClampNeg) 0 (gI σ 103).toInt.toNat) ((gL σ 94) &&& (coF σ ((aI σ 20) (c).toNatClampNeg) 0 (gI σ 103).toInt.toNat).1)) 95) (((aI σ 20) (c).toNatClampNeg)).toNatClampNeg) = 0 then (if (gI (beS (coS σ ((aI σ 20) (c).toNatClampNeg) 0 (gI σ 103).toInt.toNat) ((gL σ 94) &&& (coF σ ((aI σ 20) (c).toNatClampNeg) 0 (gI σ 103).toInt.toNat).1)) 116) = 0 then ((sI (beS (coS σ ((aI σ 20) (c).toNatClampNeg) 0 (gI σ 103).toInt.toNat) ((gL σ 94) &&& (coF σ ((aI σ 20) (c).toNatClampNeg) 0 (gI σ 103).toInt.toNat).1)) 92 0), (c + 1)) else ((sI (beS (coS σ ((aI σ 20) (c).toNatClampNeg) 0 (gI σ 103).toInt.toNat) ((gL σ 94) &&& (coF σ ((aI σ 20) (c).toNatClampNeg) 0 (gI σ 103).toInt.toNat).1)) 92 1), (c + 1))) else (if (alR σ c) = 0 then ((sI (beS (coS σ ((aI σ 20) (c).toNatClampNeg) 0 (gI σ 103).toInt.toNat) ((gL σ 94) &&& (coF σ ((aI σ 20) (c).toNatClampNeg) 0 (gI σ 103).toInt.toNat).1)) 92 1), (c + 1)) else (if (gI (beS (coS σ ((aI σ 20) (c).toNatClampNeg) 0 (gI σ 103).toInt.toNat) ((gL σ 94) &&& (coF σ ((aI σ 20) (c).toNatClampNeg) 0 (gI σ 103).toInt.toNat).1)) 116) = 0 then ((sI (beS (coS σ ((aI σ 20) (c).toNatClampNeg) 0 (gI σ 103).toInt.toNat) ((gL σ 94) &&& (coF σ ((aI σ 20) (c).toNatClampNeg) 0 (gI σ 103).toInt.toNat).1)) 92 0), (c + 1)) else ((sI (beS (coS σ ((aI σ 20) (c).toNatClampNeg) 0 (gI σ 103).toInt.toNat) ((gL σ 94) &&& (coF σ ((aI σ 20) (c).toNatClampNeg) 0 (gI σ 103).toInt.toNat).1)) 92 1), (c + 1)))))
def fs_33 (σ : RS) (c : Int32) : RS × Int32 := (if ((aI σ 21) (c).toNatClampNeg) = 0 then (if (neR σ c) = 0 then ((sA (sI (beS (sA (sM (sL σ 94 (Int64.ofInt (-1))) 98 (vp_updL (aL σ 98) (((aI σ 20) (c).toNatClampNeg)).toNatClampNeg (Int64.ofInt (-1)))) 97 (upd (aI σ 97) (((aI σ 20) (c).toNatClampNeg)).toNatClampNeg (alR σ c))) (gL σ 93)) 92 1) 95 (upd (aI (beS (sA (sM (sL σ 94 (Int64.ofInt (-1))) 98 (vp_updL (aL σ 98) (((aI σ 20) (c).toNatClampNeg)).toNatClampNeg (Int64.ofInt (-1)))) 97 (upd (aI σ 97) (((aI σ 20) (c).toNatClampNeg)).toNatClampNeg (alR σ c))) (gL σ 93)) 95) (((aI σ 20) (c).toNatClampNeg)).toNatClampNeg 0)), ((aI (beS (sA (sM (sL σ 94 (Int64.ofInt (-1))) 98 (vp_updL (aL σ 98) (((aI σ 20) (c).toNatClampNeg)).toNatClampNeg (Int64.ofInt (-1)))) 97 (upd (aI σ 97) (((aI σ 20) (c).toNatClampNeg)).toNatClampNeg (alR σ c))) (gL σ 93)) 54) (((aI σ 20) (c).toNatClampNeg)).toNatClampNeg)) else ((sA (sI (beS (sA (sM (sL σ 94 (Int64.ofInt (-1))) 98 (vp_updL (aL σ 98) (((aI σ 20) (c).toNatClampNeg)).toNatClampNeg (Int64.ofInt (-1)))) 97 (upd (aI σ 97) (((aI σ 20) (c).toNatClampNeg)).toNatClampNeg (alR σ c))) (gL σ 93)) 92 0) 95 (upd (aI (beS (sA (sM (sL σ 94 (Int64.ofInt (-1))) 98 (vp_updL (aL σ 98) (((aI σ 20) (c).toNatClampNeg)).toNatClampNeg (Int64.ofInt (-1)))) 97 (upd (aI σ 97) (((aI σ 20) (c).toNatClampNeg)).toNatClampNeg (alR σ c))) (gL σ 93)) 95) (((aI σ 20) (c).toNatClampNeg)).toNatClampNeg 0)), ((aI (beS (sA (sM (sL σ 94 (Int64.ofInt (-1))) 98 (vp_updL (aL σ 98) (((aI σ 20) (c).toNatClampNeg)).toNatClampNeg (Int64.ofInt (-1)))) 97 (upd (aI σ 97) (((aI σ 20) (c).toNatClampNeg)).toNatClampNeg (alR σ c))) (gL σ 93)) 54) (((aI σ 20) (c).toNatClampNeg)).toNatClampNeg))) else (if (neR σ c) = 0 then ((sA (sI (beS (sA (sM σ 98 (vp_updL (aL σ 98) (((aI σ 20) (c).toNatClampNeg)).toNatClampNeg (gL σ 94))) 97 (upd (aI σ 97) (((aI σ 20) (c).toNatClampNeg)).toNatClampNeg (alR σ c))) (gL σ 93)) 92 1) 95 (upd (aI (beS (sA (sM σ 98 (vp_updL (aL σ 98) (((aI σ 20) (c).toNatClampNeg)).toNatClampNeg (gL σ 94))) 97 (upd (aI σ 97) (((aI σ 20) (c).toNatClampNeg)).toNatClampNeg (alR σ c))) (gL σ 93)) 95) (((aI σ 20) (c).toNatClampNeg)).toNatClampNeg 0)), ((aI (beS (sA (sM σ 98 (vp_updL (aL σ 98) (((aI σ 20) (c).toNatClampNeg)).toNatClampNeg (gL σ 94))) 97 (upd (aI σ 97) (((aI σ 20) (c).toNatClampNeg)).toNatClampNeg (alR σ c))) (gL σ 93)) 54) (((aI σ 20) (c).toNatClampNeg)).toNatClampNeg)) else ((sA (sI (beS (sA (sM σ 98 (vp_updL (aL σ 98) (((aI σ 20) (c).toNatClampNeg)).toNatClampNeg (gL σ 94))) 97 (upd (aI σ 97) (((aI σ 20) (c).toNatClampNeg)).toNatClampNeg (alR σ c))) (gL σ 93)) 92 0) 95 (upd (aI (beS (sA (sM σ 98 (vp_updL (aL σ 98) (((aI σ 20) (c).toNatClampNeg)).toNatClampNeg (gL σ 94))) 97 (upd (aI σ 97) (((aI σ 20) (c).toNatClampNeg)).toNatClampNeg (alR σ c))) (gL σ 93)) 95) (((aI σ 20) (c).toNatClampNeg)).toNatClampNeg 0)), ((aI (beS (sA (sM σ 98 (vp_updL (aL σ 98) (((aI σ 20) (c).toNatClampNeg)).toNatClampNeg (gL σ 94))) 97 (upd (aI σ 97) (((aI σ 20) (c).toNatClampNeg)).toNatClampNeg (alR σ c))) (gL σ 93)) 54) (((aI σ 20) (c).toNatClampNeg)).toNatClampNeg))))
def fs_35 (σ : RS) (c : Int32) : RS × Int32 := (if ((aI σ 95) (((aI σ 20) (c).toNatClampNeg)).toNatClampNeg) = 0 then (σ, (c + 1)) else (if ((aI (beS (coS σ ((aI σ 20) (c).toNatClampNeg) 0 (gI σ 103).toInt.toNat) (((aL σ 98) (((aI σ 20) (c).toNatClampNeg)).toNatClampNeg) &&& (coF σ ((aI σ 20) (c).toNatClampNeg) 0 (gI σ 103).toInt.toNat).1)) 97) (((aI σ 20) (c).toNatClampNeg)).toNatClampNeg) = 0 then ((sI (beS (coS σ ((aI σ 20) (c).toNatClampNeg) 0 (gI σ 103).toInt.toNat) (((aL σ 98) (((aI σ 20) (c).toNatClampNeg)).toNatClampNeg) &&& (coF σ ((aI σ 20) (c).toNatClampNeg) 0 (gI σ 103).toInt.toNat).1)) 92 1), (((aI (beS (coS σ ((aI σ 20) (c).toNatClampNeg) 0 (gI σ 103).toInt.toNat) (((aL σ 98) (((aI σ 20) (c).toNatClampNeg)).toNatClampNeg) &&& (coF σ ((aI σ 20) (c).toNatClampNeg) 0 (gI σ 103).toInt.toNat).1)) 55) (((aI σ 20) (c).toNatClampNeg)).toNatClampNeg) + 1)) else (if (gI (beS (coS σ ((aI σ 20) (c).toNatClampNeg) 0 (gI σ 103).toInt.toNat) (((aL σ 98) (((aI σ 20) (c).toNatClampNeg)).toNatClampNeg) &&& (coF σ ((aI σ 20) (c).toNatClampNeg) 0 (gI σ 103).toInt.toNat).1)) 116) = 0 then ((sI (beS (coS σ ((aI σ 20) (c).toNatClampNeg) 0 (gI σ 103).toInt.toNat) (((aL σ 98) (((aI σ 20) (c).toNatClampNeg)).toNatClampNeg) &&& (coF σ ((aI σ 20) (c).toNatClampNeg) 0 (gI σ 103).toInt.toNat).1)) 92 0), (((aI (beS (coS σ ((aI σ 20) (c).toNatClampNeg) 0 (gI σ 103).toInt.toNat) (((aL σ 98) (((aI σ 20) (c).toNatClampNeg)).toNatClampNeg) &&& (coF σ ((aI σ 20) (c).toNatClampNeg) 0 (gI σ 103).toInt.toNat).1)) 55) (((aI σ 20) (c).toNatClampNeg)).toNatClampNeg) + 1)) else ((sI (beS (coS σ ((aI σ 20) (c).toNatClampNeg) 0 (gI σ 103).toInt.toNat) (((aL σ 98) (((aI σ 20) (c).toNatClampNeg)).toNatClampNeg) &&& (coF σ ((aI σ 20) (c).toNatClampNeg) 0 (gI σ 103).toInt.toNat).1)) 92 1), (((aI (beS (coS σ ((aI σ 20) (c).toNatClampNeg) 0 (gI σ 103).toInt.toNat) (((aL σ 98) (((aI σ 20) (c).toNatClampNeg)).toNatClampNeg) &&& (coF σ ((aI σ 20) (c).toNatClampNeg) 0 (gI σ 103).toInt.toNat).1)) 55) (((aI σ 20) (c).toNatClampNeg)).toNatClampNeg) + 1)))))
def fs_36 (σ : RS) (c : Int32) : RS × Int32 := ((sA (beS (coS σ ((aI σ 20) (c).toNatClampNeg) 1 (gI σ 103).toInt.toNat) ((nowR σ) &&& (coF σ ((aI σ 20) (c).toNatClampNeg) 1 (gI σ 103).toInt.toNat).1)) 95 (upd (aI (beS (coS σ ((aI σ 20) (c).toNatClampNeg) 1 (gI σ 103).toInt.toNat) ((nowR σ) &&& (coF σ ((aI σ 20) (c).toNatClampNeg) 1 (gI σ 103).toInt.toNat).1)) 95) (((aI σ 20) (c).toNatClampNeg)).toNatClampNeg 1)), (((aI (beS (coS σ ((aI σ 20) (c).toNatClampNeg) 1 (gI σ 103).toInt.toNat) ((nowR σ) &&& (coF σ ((aI σ 20) (c).toNatClampNeg) 1 (gI σ 103).toInt.toNat).1)) 53) (((aI σ 20) (c).toNatClampNeg)).toNatClampNeg) + 1))
def fs_37 (σ : RS) (c : Int32) : RS × Int32 := ((sI (sM (beS σ (nowR σ)) 96 (vp_updL (aL (beS σ (nowR σ)) 96) (((aI σ 20) (c).toNatClampNeg)).toNatClampNeg (nowR (beS σ (nowR σ))))) 92 1), (c + 1))
def fs_38 (σ : RS) (c : Int32) : RS × Int32 := ((sI (beS σ ((nowR σ) &&& ((aL σ 96) (((aI σ 20) (c).toNatClampNeg)).toNatClampNeg))) 92 1), (c + 1))
def fs_39 (σ : RS) (c : Int32) : RS × Int32 := ((sI (beS σ ((nowR σ) &&& ((aL σ 96) (((aI σ 20) (c).toNatClampNeg)).toNatClampNeg))) 92 1), (c + 1))
def fs_40 (σ : RS) (c : Int32) : RS × Int32 := (if 0 ≤ ((aI (coS σ ((aI σ 20) (c).toNatClampNeg) 0 (gI σ 103).toInt.toNat) 59) (((aI σ 20) (c).toNatClampNeg)).toNatClampNeg) then (if (gI (beS (coS σ ((aI σ 20) (c).toNatClampNeg) 0 (gI σ 103).toInt.toNat) (((nowR σ) &&& (coF σ ((aI σ 20) (c).toNatClampNeg) 0 (gI σ 103).toInt.toNat).1) &&& (Int64.ofInt (-1)))) 92) = 0 then (if (gI (beS (coS σ ((aI σ 20) (c).toNatClampNeg) 0 (gI σ 103).toInt.toNat) (((nowR σ) &&& (coF σ ((aI σ 20) (c).toNatClampNeg) 0 (gI σ 103).toInt.toNat).1) &&& (Int64.ofInt (-1)))) 116) = 0 then (if 0 ≤ ((aI (beS (coS σ ((aI σ 20) (c).toNatClampNeg) 0 (gI σ 103).toInt.toNat) (((nowR σ) &&& (coF σ ((aI σ 20) (c).toNatClampNeg) 0 (gI σ 103).toInt.toNat).1) &&& (Int64.ofInt (-1)))) 59) (((aI σ 20) (c).toNatClampNeg)).toNatClampNeg) then ((sI (beS (coS σ ((aI σ 20) (c).toNatClampNeg) 0 (gI σ 103).toInt.toNat) (((nowR σ) &&& (coF σ ((aI σ 20) (c).toNatClampNeg) 0 (gI σ 103).toInt.toNat).1) &&& (Int64.ofInt (-1)))) 92 0), (c + 1)) else ((sI (beS (coS σ ((aI σ 20) (c).toNatClampNeg) 0 (gI σ 103).toInt.toNat) (((nowR σ) &&& (coF σ ((aI σ 20) (c).toNatClampNeg) 0 (gI σ 103).toInt.toNat).1) &&& (Int64.ofInt (-1)))) 92 1), (c + 1))) else ((sI (beS (coS σ ((aI σ 20) (c).toNatClampNeg) 0 (gI σ 103).toInt.toNat) (((nowR σ) &&& (coF σ ((aI σ 20) (c).toNatClampNeg) 0 (gI σ 103).toInt.toNat).1) &&& (Int64.ofInt (-1)))) 92 1), (c + 1))) else ((sI (beS (coS σ ((aI σ 20) (c).toNatClampNeg) 0 (gI σ 103).toInt.toNat) (((nowR σ) &&& (coF σ ((aI σ 20) (c).toNatClampNeg) 0 (gI σ 103).toInt.toNat).1) &&& (Int64.ofInt (-1)))) 92 1), (c + 1))) else (if (gI (beS (coS σ ((aI σ 20) (c).toNatClampNeg) 0 (gI σ 103).toInt.toNat) (((nowR σ) &&& (coF σ ((aI σ 20) (c).toNatClampNeg) 0 (gI σ 103).toInt.toNat).1) &&& ((aL (coS σ ((aI σ 20) (c).toNatClampNeg) 0 (gI σ 103).toInt.toNat) 96) (((aI σ 20) (c).toNatClampNeg)).toNatClampNeg))) 92) = 0 then (if (gI (beS (coS σ ((aI σ 20) (c).toNatClampNeg) 0 (gI σ 103).toInt.toNat) (((nowR σ) &&& (coF σ ((aI σ 20) (c).toNatClampNeg) 0 (gI σ 103).toInt.toNat).1) &&& ((aL (coS σ ((aI σ 20) (c).toNatClampNeg) 0 (gI σ 103).toInt.toNat) 96) (((aI σ 20) (c).toNatClampNeg)).toNatClampNeg))) 116) = 0 then (if 0 ≤ ((aI (beS (coS σ ((aI σ 20) (c).toNatClampNeg) 0 (gI σ 103).toInt.toNat) (((nowR σ) &&& (coF σ ((aI σ 20) (c).toNatClampNeg) 0 (gI σ 103).toInt.toNat).1) &&& ((aL (coS σ ((aI σ 20) (c).toNatClampNeg) 0 (gI σ 103).toInt.toNat) 96) (((aI σ 20) (c).toNatClampNeg)).toNatClampNeg))) 59) (((aI σ 20) (c).toNatClampNeg)).toNatClampNeg) then ((sI (beS (coS σ ((aI σ 20) (c).toNatClampNeg) 0 (gI σ 103).toInt.toNat) (((nowR σ) &&& (coF σ ((aI σ 20) (c).toNatClampNeg) 0 (gI σ 103).toInt.toNat).1) &&& ((aL (coS σ ((aI σ 20) (c).toNatClampNeg) 0 (gI σ 103).toInt.toNat) 96) (((aI σ 20) (c).toNatClampNeg)).toNatClampNeg))) 92 0), (c + 1)) else ((sI (beS (coS σ ((aI σ 20) (c).toNatClampNeg) 0 (gI σ 103).toInt.toNat) (((nowR σ) &&& (coF σ ((aI σ 20) (c).toNatClampNeg) 0 (gI σ 103).toInt.toNat).1) &&& ((aL (coS σ ((aI σ 20) (c).toNatClampNeg) 0 (gI σ 103).toInt.toNat) 96) (((aI σ 20) (c).toNatClampNeg)).toNatClampNeg))) 92 1), (c + 1))) else ((sI (beS (coS σ ((aI σ 20) (c).toNatClampNeg) 0 (gI σ 103).toInt.toNat) (((nowR σ) &&& (coF σ ((aI σ 20) (c).toNatClampNeg) 0 (gI σ 103).toInt.toNat).1) &&& ((aL (coS σ ((aI σ 20) (c).toNatClampNeg) 0 (gI σ 103).toInt.toNat) 96) (((aI σ 20) (c).toNatClampNeg)).toNatClampNeg))) 92 1), (c + 1))) else ((sI (beS (coS σ ((aI σ 20) (c).toNatClampNeg) 0 (gI σ 103).toInt.toNat) (((nowR σ) &&& (coF σ ((aI σ 20) (c).toNatClampNeg) 0 (gI σ 103).toInt.toNat).1) &&& ((aL (coS σ ((aI σ 20) (c).toNatClampNeg) 0 (gI σ 103).toInt.toNat) 96) (((aI σ 20) (c).toNatClampNeg)).toNatClampNeg))) 92 1), (c + 1))))
def fs_42 (σ : RS) (c : Int32) : RS × Int32 := (if (gI (beS (coS σ ((aI σ 20) (c).toNatClampNeg) 0 (gI σ 103).toInt.toNat) ((nowR σ) &&& (coF σ ((aI σ 20) (c).toNatClampNeg) 0 (gI σ 103).toInt.toNat).1)) 92) = 0 then (if (gI (beS (coS σ ((aI σ 20) (c).toNatClampNeg) 0 (gI σ 103).toInt.toNat) ((nowR σ) &&& (coF σ ((aI σ 20) (c).toNatClampNeg) 0 (gI σ 103).toInt.toNat).1)) 116) = 0 then ((sI (beS (coS σ ((aI σ 20) (c).toNatClampNeg) 0 (gI σ 103).toInt.toNat) ((nowR σ) &&& (coF σ ((aI σ 20) (c).toNatClampNeg) 0 (gI σ 103).toInt.toNat).1)) 92 0), (c + 1)) else ((sI (beS (coS σ ((aI σ 20) (c).toNatClampNeg) 0 (gI σ 103).toInt.toNat) ((nowR σ) &&& (coF σ ((aI σ 20) (c).toNatClampNeg) 0 (gI σ 103).toInt.toNat).1)) 92 1), (c + 1))) else ((sI (beS (coS σ ((aI σ 20) (c).toNatClampNeg) 0 (gI σ 103).toInt.toNat) ((nowR σ) &&& (coF σ ((aI σ 20) (c).toNatClampNeg) 0 (gI σ 103).toInt.toNat).1)) 92 1), (c + 1)))
def fs_45 (σ : RS) (c : Int32) : RS × Int32 := (if (gI σ 117) = ((aI σ 20) (c).toNatClampNeg) then ((sA (sI (sI σ 117 (-2)) 92 0) 111 (upd (aI σ 111) (((aI σ 22) (c).toNatClampNeg)).toNatClampNeg 0)), (c + 1)) else ((sA σ 111 (upd (aI σ 111) (((aI σ 22) (c).toNatClampNeg)).toNatClampNeg (gI σ 92))), (c + 1)))
def fs_46 (σ : RS) (c : Int32) : RS × Int32 := (if ((aI σ 19) (c).toNatClampNeg) = 47 then (if (gI σ 92) = 0 then ((beS (sI (sI (sM (sA (sA (sA (sA σ 104 (upd (aI σ 104) ((gI σ 103)).toNatClampNeg ((aI σ 20) (c).toNatClampNeg))) 105 (upd (aI σ 105) ((gI σ 103)).toNatClampNeg 1)) 106 (upd (aI σ 106) ((gI σ 103)).toNatClampNeg c)) 107 (upd (aI σ 107) ((gI σ 103)).toNatClampNeg 0)) 108 (vp_updL (aL σ 108) ((gI σ 103)).toNatClampNeg (nowR (sA (sA (sA (sA σ 104 (upd (aI σ 104) ((gI σ 103)).toNatClampNeg ((aI σ 20) (c).toNatClampNeg))) 105 (upd (aI σ 105) ((gI σ 103)).toNatClampNeg 1)) 106 (upd (aI σ 106) ((gI σ 103)).toNatClampNeg c)) 107 (upd (aI σ 107) ((gI σ 103)).toNatClampNeg 0))))) 103 ((gI σ 103) + 1)) 92 0) (Int64.ofInt (-1))), (c + 1)) else (if 0 ≤ (gI σ 117) then ((beS (sI (sI (sM (sA (sA (sA (sA σ 104 (upd (aI σ 104) ((gI σ 103)).toNatClampNeg ((aI σ 20) (c).toNatClampNeg))) 105 (upd (aI σ 105) ((gI σ 103)).toNatClampNeg 1)) 106 (upd (aI σ 106) ((gI σ 103)).toNatClampNeg c)) 107 (upd (aI σ 107) ((gI σ 103)).toNatClampNeg 0)) 108 (vp_updL (aL σ 108) ((gI σ 103)).toNatClampNeg (nowR (sA (sA (sA (sA σ 104 (upd (aI σ 104) ((gI σ 103)).toNatClampNeg ((aI σ 20) (c).toNatClampNeg))) 105 (upd (aI σ 105) ((gI σ 103)).toNatClampNeg 1)) 106 (upd (aI σ 106) ((gI σ 103)).toNatClampNeg c)) 107 (upd (aI σ 107) ((gI σ 103)).toNatClampNeg 0))))) 103 ((gI σ 103) + 1)) 92 0) (Int64.ofInt (-1))), (c + 1)) else ((beS (sI (sI (sM (sA (sA (sA (sA σ 104 (upd (aI σ 104) ((gI σ 103)).toNatClampNeg ((aI σ 20) (c).toNatClampNeg))) 105 (upd (aI σ 105) ((gI σ 103)).toNatClampNeg 1)) 106 (upd (aI σ 106) ((gI σ 103)).toNatClampNeg c)) 107 (upd (aI σ 107) ((gI σ 103)).toNatClampNeg 1)) 108 (vp_updL (aL σ 108) ((gI σ 103)).toNatClampNeg (nowR (sA (sA (sA (sA σ 104 (upd (aI σ 104) ((gI σ 103)).toNatClampNeg ((aI σ 20) (c).toNatClampNeg))) 105 (upd (aI σ 105) ((gI σ 103)).toNatClampNeg 1)) 106 (upd (aI σ 106) ((gI σ 103)).toNatClampNeg c)) 107 (upd (aI σ 107) ((gI σ 103)).toNatClampNeg 1))))) 103 ((gI σ 103) + 1)) 92 0) (Int64.ofInt (-1))), (c + 1)))) else (if (gI σ 92) = 0 then ((beS (sI (sI (sM (sA (sA (sA (sA σ 104 (upd (aI σ 104) ((gI σ 103)).toNatClampNeg ((aI σ 20) (c).toNatClampNeg))) 105 (upd (aI σ 105) ((gI σ 103)).toNatClampNeg 0)) 106 (upd (aI σ 106) ((gI σ 103)).toNatClampNeg c)) 107 (upd (aI σ 107) ((gI σ 103)).toNatClampNeg 0)) 108 (vp_updL (aL σ 108) ((gI σ 103)).toNatClampNeg (nowR (sA (sA (sA (sA σ 104 (upd (aI σ 104) ((gI σ 103)).toNatClampNeg ((aI σ 20) (c).toNatClampNeg))) 105 (upd (aI σ 105) ((gI σ 103)).toNatClampNeg 0)) 106 (upd (aI σ 106) ((gI σ 103)).toNatClampNeg c)) 107 (upd (aI σ 107) ((gI σ 103)).toNatClampNeg 0))))) 103 ((gI σ 103) + 1)) 92 0) (Int64.ofInt (-1))), (c + 1)) else (if 0 ≤ (gI σ 117) then ((beS (sI (sI (sM (sA (sA (sA (sA σ 104 (upd (aI σ 104) ((gI σ 103)).toNatClampNeg ((aI σ 20) (c).toNatClampNeg))) 105 (upd (aI σ 105) ((gI σ 103)).toNatClampNeg 0)) 106 (upd (aI σ 106) ((gI σ 103)).toNatClampNeg c)) 107 (upd (aI σ 107) ((gI σ 103)).toNatClampNeg 0)) 108 (vp_updL (aL σ 108) ((gI σ 103)).toNatClampNeg (nowR (sA (sA (sA (sA σ 104 (upd (aI σ 104) ((gI σ 103)).toNatClampNeg ((aI σ 20) (c).toNatClampNeg))) 105 (upd (aI σ 105) ((gI σ 103)).toNatClampNeg 0)) 106 (upd (aI σ 106) ((gI σ 103)).toNatClampNeg c)) 107 (upd (aI σ 107) ((gI σ 103)).toNatClampNeg 0))))) 103 ((gI σ 103) + 1)) 92 0) (Int64.ofInt (-1))), (c + 1)) else ((beS (sI (sI (sM (sA (sA (sA (sA σ 104 (upd (aI σ 104) ((gI σ 103)).toNatClampNeg ((aI σ 20) (c).toNatClampNeg))) 105 (upd (aI σ 105) ((gI σ 103)).toNatClampNeg 0)) 106 (upd (aI σ 106) ((gI σ 103)).toNatClampNeg c)) 107 (upd (aI σ 107) ((gI σ 103)).toNatClampNeg 1)) 108 (vp_updL (aL σ 108) ((gI σ 103)).toNatClampNeg (nowR (sA (sA (sA (sA σ 104 (upd (aI σ 104) ((gI σ 103)).toNatClampNeg ((aI σ 20) (c).toNatClampNeg))) 105 (upd (aI σ 105) ((gI σ 103)).toNatClampNeg 0)) 106 (upd (aI σ 106) ((gI σ 103)).toNatClampNeg c)) 107 (upd (aI σ 107) ((gI σ 103)).toNatClampNeg 1))))) 103 ((gI σ 103) + 1)) 92 0) (Int64.ofInt (-1))), (c + 1)))))
def fs_47 (σ : RS) (c : Int32) : RS × Int32 := (if ((aI σ 19) (c).toNatClampNeg) = 47 then (if (gI σ 92) = 0 then ((beS (sI (sI (sM (sA (sA (sA (sA σ 104 (upd (aI σ 104) ((gI σ 103)).toNatClampNeg ((aI σ 20) (c).toNatClampNeg))) 105 (upd (aI σ 105) ((gI σ 103)).toNatClampNeg 1)) 106 (upd (aI σ 106) ((gI σ 103)).toNatClampNeg c)) 107 (upd (aI σ 107) ((gI σ 103)).toNatClampNeg 0)) 108 (vp_updL (aL σ 108) ((gI σ 103)).toNatClampNeg (nowR (sA (sA (sA (sA σ 104 (upd (aI σ 104) ((gI σ 103)).toNatClampNeg ((aI σ 20) (c).toNatClampNeg))) 105 (upd (aI σ 105) ((gI σ 103)).toNatClampNeg 1)) 106 (upd (aI σ 106) ((gI σ 103)).toNatClampNeg c)) 107 (upd (aI σ 107) ((gI σ 103)).toNatClampNeg 0))))) 103 ((gI σ 103) + 1)) 92 0) (Int64.ofInt (-1))), (c + 1)) else (if 0 ≤ (gI σ 117) then ((beS (sI (sI (sM (sA (sA (sA (sA σ 104 (upd (aI σ 104) ((gI σ 103)).toNatClampNeg ((aI σ 20) (c).toNatClampNeg))) 105 (upd (aI σ 105) ((gI σ 103)).toNatClampNeg 1)) 106 (upd (aI σ 106) ((gI σ 103)).toNatClampNeg c)) 107 (upd (aI σ 107) ((gI σ 103)).toNatClampNeg 0)) 108 (vp_updL (aL σ 108) ((gI σ 103)).toNatClampNeg (nowR (sA (sA (sA (sA σ 104 (upd (aI σ 104) ((gI σ 103)).toNatClampNeg ((aI σ 20) (c).toNatClampNeg))) 105 (upd (aI σ 105) ((gI σ 103)).toNatClampNeg 1)) 106 (upd (aI σ 106) ((gI σ 103)).toNatClampNeg c)) 107 (upd (aI σ 107) ((gI σ 103)).toNatClampNeg 0))))) 103 ((gI σ 103) + 1)) 92 0) (Int64.ofInt (-1))), (c + 1)) else ((beS (sI (sI (sM (sA (sA (sA (sA σ 104 (upd (aI σ 104) ((gI σ 103)).toNatClampNeg ((aI σ 20) (c).toNatClampNeg))) 105 (upd (aI σ 105) ((gI σ 103)).toNatClampNeg 1)) 106 (upd (aI σ 106) ((gI σ 103)).toNatClampNeg c)) 107 (upd (aI σ 107) ((gI σ 103)).toNatClampNeg 1)) 108 (vp_updL (aL σ 108) ((gI σ 103)).toNatClampNeg (nowR (sA (sA (sA (sA σ 104 (upd (aI σ 104) ((gI σ 103)).toNatClampNeg ((aI σ 20) (c).toNatClampNeg))) 105 (upd (aI σ 105) ((gI σ 103)).toNatClampNeg 1)) 106 (upd (aI σ 106) ((gI σ 103)).toNatClampNeg c)) 107 (upd (aI σ 107) ((gI σ 103)).toNatClampNeg 1))))) 103 ((gI σ 103) + 1)) 92 0) (Int64.ofInt (-1))), (c + 1)))) else (if (gI σ 92) = 0 then ((beS (sI (sI (sM (sA (sA (sA (sA σ 104 (upd (aI σ 104) ((gI σ 103)).toNatClampNeg ((aI σ 20) (c).toNatClampNeg))) 105 (upd (aI σ 105) ((gI σ 103)).toNatClampNeg 0)) 106 (upd (aI σ 106) ((gI σ 103)).toNatClampNeg c)) 107 (upd (aI σ 107) ((gI σ 103)).toNatClampNeg 0)) 108 (vp_updL (aL σ 108) ((gI σ 103)).toNatClampNeg (nowR (sA (sA (sA (sA σ 104 (upd (aI σ 104) ((gI σ 103)).toNatClampNeg ((aI σ 20) (c).toNatClampNeg))) 105 (upd (aI σ 105) ((gI σ 103)).toNatClampNeg 0)) 106 (upd (aI σ 106) ((gI σ 103)).toNatClampNeg c)) 107 (upd (aI σ 107) ((gI σ 103)).toNatClampNeg 0))))) 103 ((gI σ 103) + 1)) 92 0) (Int64.ofInt (-1))), (c + 1)) else (if 0 ≤ (gI σ 117) then ((beS (sI (sI (sM (sA (sA (sA (sA σ 104 (upd (aI σ 104) ((gI σ 103)).toNatClampNeg ((aI σ 20) (c).toNatClampNeg))) 105 (upd (aI σ 105) ((gI σ 103)).toNatClampNeg 0)) 106 (upd (aI σ 106) ((gI σ 103)).toNatClampNeg c)) 107 (upd (aI σ 107) ((gI σ 103)).toNatClampNeg 0)) 108 (vp_updL (aL σ 108) ((gI σ 103)).toNatClampNeg (nowR (sA (sA (sA (sA σ 104 (upd (aI σ 104) ((gI σ 103)).toNatClampNeg ((aI σ 20) (c).toNatClampNeg))) 105 (upd (aI σ 105) ((gI σ 103)).toNatClampNeg 0)) 106 (upd (aI σ 106) ((gI σ 103)).toNatClampNeg c)) 107 (upd (aI σ 107) ((gI σ 103)).toNatClampNeg 0))))) 103 ((gI σ 103) + 1)) 92 0) (Int64.ofInt (-1))), (c + 1)) else ((beS (sI (sI (sM (sA (sA (sA (sA σ 104 (upd (aI σ 104) ((gI σ 103)).toNatClampNeg ((aI σ 20) (c).toNatClampNeg))) 105 (upd (aI σ 105) ((gI σ 103)).toNatClampNeg 0)) 106 (upd (aI σ 106) ((gI σ 103)).toNatClampNeg c)) 107 (upd (aI σ 107) ((gI σ 103)).toNatClampNeg 1)) 108 (vp_updL (aL σ 108) ((gI σ 103)).toNatClampNeg (nowR (sA (sA (sA (sA σ 104 (upd (aI σ 104) ((gI σ 103)).toNatClampNeg ((aI σ 20) (c).toNatClampNeg))) 105 (upd (aI σ 105) ((gI σ 103)).toNatClampNeg 0)) 106 (upd (aI σ 106) ((gI σ 103)).toNatClampNeg c)) 107 (upd (aI σ 107) ((gI σ 103)).toNatClampNeg 1))))) 103 ((gI σ 103) + 1)) 92 0) (Int64.ofInt (-1))), (c + 1)))))
def fs_48 (σ : RS) (c : Int32) : RS × Int32 := ((beS (sI σ 92 0) (Int64.ofInt (-1))), (c + 1))
def fs_49 (σ : RS) (c : Int32) : RS × Int32 := ((beS (sI σ 92 0) (Int64.ofInt (-1))), (c + 1))
def fs_50 (σ : RS) (c : Int32) : RS × Int32 := ((sM σ 99 (vp_updL (aL σ 99) (((aI σ 20) (c).toNatClampNeg)).toNatClampNeg (nowR σ))), (c + 1))
def fs_51 (σ : RS) (c : Int32) : RS × Int32 := ((sI (beS (sM (sA σ 95 (upd (aI σ 95) (((aI σ 20) (c).toNatClampNeg)).toNatClampNeg (gI σ 92))) 96 (vp_updL (aL σ 96) (((aI σ 20) (c).toNatClampNeg)).toNatClampNeg (nowR (sA σ 95 (upd (aI σ 95) (((aI σ 20) (c).toNatClampNeg)).toNatClampNeg (gI σ 92)))))) (((aL σ 99) (((aI σ 20) (c).toNatClampNeg)).toNatClampNeg) ||| ((1 : Int64) <<< ((((aI σ 61) (((aI σ 20) (c).toNatClampNeg)).toNatClampNeg)).toInt64 &&& 63)))) 92 1), (c + 1))
def fs_52 (σ : RS) (c : Int32) : RS × Int32 := (if 0 ≤ ((aI σ 57) (((aI σ 20) (c).toNatClampNeg)).toNatClampNeg) then (if (gI σ 92) = 0 then (if ((aI σ 95) (((aI σ 20) (c).toNatClampNeg)).toNatClampNeg) = 0 then (if 0 ≤ ((aI σ 57) (((aI σ 20) (c).toNatClampNeg)).toNatClampNeg) then ((sI (beS (sM (sA σ 95 (upd (aI σ 95) (((aI σ 20) (c).toNatClampNeg)).toNatClampNeg 0)) 96 (vp_updL (aL σ 96) (((aI σ 20) (c).toNatClampNeg)).toNatClampNeg ((nowR (sA σ 95 (upd (aI σ 95) (((aI σ 20) (c).toNatClampNeg)).toNatClampNeg 0))) &&& ((aL σ 96) (((aI σ 20) (c).toNatClampNeg)).toNatClampNeg)))) ((aL σ 99) (((aI σ 20) (c).toNatClampNeg)).toNatClampNeg)) 92 1), (c + 1)) else ((sI (beS (sM (sA σ 95 (upd (aI σ 95) (((aI σ 20) (c).toNatClampNeg)).toNatClampNeg 0)) 96 (vp_updL (aL σ 96) (((aI σ 20) (c).toNatClampNeg)).toNatClampNeg (nowR (sA σ 95 (upd (aI σ 95) (((aI σ 20) (c).toNatClampNeg)).toNatClampNeg 0))))) ((aL σ 99) (((aI σ 20) (c).toNatClampNeg)).toNatClampNeg)) 92 1), (c + 1))) else (if 0 ≤ ((aI σ 57) (((aI σ 20) (c).toNatClampNeg)).toNatClampNeg) then ((sI (beS (sM (sA σ 95 (upd (aI σ 95) (((aI σ 20) (c).toNatClampNeg)).toNatClampNeg 1)) 96 (vp_updL (aL σ 96) (((aI σ 20) (c).toNatClampNeg)).toNatClampNeg ((nowR (sA σ 95 (upd (aI σ 95) (((aI σ 20) (c).toNatClampNeg)).toNatClampNeg 1))) &&& ((aL σ 96) (((aI σ 20) (c).toNatClampNeg)).toNatClampNeg)))) ((aL σ 99) (((aI σ 20) (c).toNatClampNeg)).toNatClampNeg)) 92 1), (c + 1)) else ((sI (beS (sM (sA σ 95 (upd (aI σ 95) (((aI σ 20) (c).toNatClampNeg)).toNatClampNeg 1)) 96 (vp_updL (aL σ 96) (((aI σ 20) (c).toNatClampNeg)).toNatClampNeg (nowR (sA σ 95 (upd (aI σ 95) (((aI σ 20) (c).toNatClampNeg)).toNatClampNeg 1))))) ((aL σ 99) (((aI σ 20) (c).toNatClampNeg)).toNatClampNeg)) 92 1), (c + 1)))) else (if 0 ≤ ((aI σ 57) (((aI σ 20) (c).toNatClampNeg)).toNatClampNeg) then ((sI (beS (sM (sA σ 95 (upd (aI σ 95) (((aI σ 20) (c).toNatClampNeg)).toNatClampNeg 1)) 96 (vp_updL (aL σ 96) (((aI σ 20) (c).toNatClampNeg)).toNatClampNeg ((nowR (sA σ 95 (upd (aI σ 95) (((aI σ 20) (c).toNatClampNeg)).toNatClampNeg 1))) &&& ((aL σ 96) (((aI σ 20) (c).toNatClampNeg)).toNatClampNeg)))) ((aL σ 99) (((aI σ 20) (c).toNatClampNeg)).toNatClampNeg)) 92 1), (c + 1)) else ((sI (beS (sM (sA σ 95 (upd (aI σ 95) (((aI σ 20) (c).toNatClampNeg)).toNatClampNeg 1)) 96 (vp_updL (aL σ 96) (((aI σ 20) (c).toNatClampNeg)).toNatClampNeg (nowR (sA σ 95 (upd (aI σ 95) (((aI σ 20) (c).toNatClampNeg)).toNatClampNeg 1))))) ((aL σ 99) (((aI σ 20) (c).toNatClampNeg)).toNatClampNeg)) 92 1), (c + 1)))) else (if 0 ≤ ((aI σ 57) (((aI σ 20) (c).toNatClampNeg)).toNatClampNeg) then ((sI (beS (sM (sA σ 95 (upd (aI σ 95) (((aI σ 20) (c).toNatClampNeg)).toNatClampNeg (gI σ 92))) 96 (vp_updL (aL σ 96) (((aI σ 20) (c).toNatClampNeg)).toNatClampNeg ((nowR (sA σ 95 (upd (aI σ 95) (((aI σ 20) (c).toNatClampNeg)).toNatClampNeg (gI σ 92)))) &&& ((aL σ 96) (((aI σ 20) (c).toNatClampNeg)).toNatClampNeg)))) ((aL σ 99) (((aI σ 20) (c).toNatClampNeg)).toNatClampNeg)) 92 1), (c + 1)) else ((sI (beS (sM (sA σ 95 (upd (aI σ 95) (((aI σ 20) (c).toNatClampNeg)).toNatClampNeg (gI σ 92))) 96 (vp_updL (aL σ 96) (((aI σ 20) (c).toNatClampNeg)).toNatClampNeg (nowR (sA σ 95 (upd (aI σ 95) (((aI σ 20) (c).toNatClampNeg)).toNatClampNeg (gI σ 92)))))) ((aL σ 99) (((aI σ 20) (c).toNatClampNeg)).toNatClampNeg)) 92 1), (c + 1))))
def fs_53 (σ : RS) (c : Int32) : RS × Int32 := (if ((aI σ 58) (((aI σ 20) (c).toNatClampNeg)).toNatClampNeg) < 0 then (if (gI σ 92) = 0 then (if ((aI σ 95) (((aI σ 20) (c).toNatClampNeg)).toNatClampNeg) = 0 then ((beS (sI σ 92 0) ((nowR (sI σ 92 0)) &&& ((aL σ 96) (((aI σ 20) (c).toNatClampNeg)).toNatClampNeg))), (c + 1)) else ((beS (sI σ 92 1) ((nowR (sI σ 92 1)) &&& ((aL σ 96) (((aI σ 20) (c).toNatClampNeg)).toNatClampNeg))), (c + 1))) else ((beS (sI σ 92 1) ((nowR (sI σ 92 1)) &&& ((aL σ 96) (((aI σ 20) (c).toNatClampNeg)).toNatClampNeg))), (c + 1))) else (if (gI (enS σ ((aI σ 20) (c).toNatClampNeg) (gI σ 103).toInt.toNat) 92) = 0 then ((beS (sI (enS σ ((aI σ 20) (c).toNatClampNeg) (gI σ 103).toInt.toNat) 92 0) ((nowR (sI (enS σ ((aI σ 20) (c).toNatClampNeg) (gI σ 103).toInt.toNat) 92 0)) ||| ((aL (enS σ ((aI σ 20) (c).toNatClampNeg) (gI σ 103).toInt.toNat) 96) (((aI σ 20) (c).toNatClampNeg)).toNatClampNeg))), (c + 1)) else (if ((aI (enS σ ((aI σ 20) (c).toNatClampNeg) (gI σ 103).toInt.toNat) 95) (((aI σ 20) (c).toNatClampNeg)).toNatClampNeg) = 0 then ((beS (sI (enS σ ((aI σ 20) (c).toNatClampNeg) (gI σ 103).toInt.toNat) 92 0) ((nowR (sI (enS σ ((aI σ 20) (c).toNatClampNeg) (gI σ 103).toInt.toNat) 92 0)) ||| ((aL (enS σ ((aI σ 20) (c).toNatClampNeg) (gI σ 103).toInt.toNat) 96) (((aI σ 20) (c).toNatClampNeg)).toNatClampNeg))), (c + 1)) else ((beS (sI (enS σ ((aI σ 20) (c).toNatClampNeg) (gI σ 103).toInt.toNat) 92 1) ((nowR (sI (enS σ ((aI σ 20) (c).toNatClampNeg) (gI σ 103).toInt.toNat) 92 1)) ||| ((aL (enS σ ((aI σ 20) (c).toNatClampNeg) (gI σ 103).toInt.toNat) 96) (((aI σ 20) (c).toNatClampNeg)).toNatClampNeg))), (c + 1)))))
def fsS (σ : RS) (c : Int32) : RS × Int32 := match (aI σ 19 c.toNatClampNeg).toInt.toNat with
  | 20 => fs_20 σ c
  | 21 => fs_21 σ c
  | 22 => fs_22 σ c
  | 23 => fs_23 σ c
  | 24 => fs_24 σ c
  | 25 => fs_25 σ c
  | 27 => fs_27 σ c
  | 28 => fs_28 σ c
  | 30 => fs_30 σ c
  | 31 => fs_31 σ c
  | 33 => fs_33 σ c
  | 35 => fs_35 σ c
  | 36 => fs_36 σ c
  | 37 => fs_37 σ c
  | 38 => fs_38 σ c
  | 39 => fs_39 σ c
  | 40 => fs_40 σ c
  | 42 => fs_42 σ c
  | 45 => fs_45 σ c
  | 46 => fs_46 σ c
  | 47 => fs_47 σ c
  | 48 => fs_48 σ c
  | 49 => fs_49 σ c
  | 50 => fs_50 σ c
  | 51 => fs_51 σ c
  | 52 => fs_52 σ c
  | 53 => fs_53 σ c
  | _ => (σ, c + 1)
theorem fs_e20 {σ : RS} {c : Int32} (h : (aI σ 19 c.toNatClampNeg).toInt = 20) : fsS σ c = fs_20 σ c := by
  unfold fsS
  rw [h]
  rfl
theorem fs_e21 {σ : RS} {c : Int32} (h : (aI σ 19 c.toNatClampNeg).toInt = 21) : fsS σ c = fs_21 σ c := by
  unfold fsS
  rw [h]
  rfl
theorem fs_e22 {σ : RS} {c : Int32} (h : (aI σ 19 c.toNatClampNeg).toInt = 22) : fsS σ c = fs_22 σ c := by
  unfold fsS
  rw [h]
  rfl
theorem fs_e23 {σ : RS} {c : Int32} (h : (aI σ 19 c.toNatClampNeg).toInt = 23) : fsS σ c = fs_23 σ c := by
  unfold fsS
  rw [h]
  rfl
theorem fs_e24 {σ : RS} {c : Int32} (h : (aI σ 19 c.toNatClampNeg).toInt = 24) : fsS σ c = fs_24 σ c := by
  unfold fsS
  rw [h]
  rfl
theorem fs_e25 {σ : RS} {c : Int32} (h : (aI σ 19 c.toNatClampNeg).toInt = 25) : fsS σ c = fs_25 σ c := by
  unfold fsS
  rw [h]
  rfl
theorem fs_e27 {σ : RS} {c : Int32} (h : (aI σ 19 c.toNatClampNeg).toInt = 27) : fsS σ c = fs_27 σ c := by
  unfold fsS
  rw [h]
  rfl
theorem fs_e28 {σ : RS} {c : Int32} (h : (aI σ 19 c.toNatClampNeg).toInt = 28) : fsS σ c = fs_28 σ c := by
  unfold fsS
  rw [h]
  rfl
theorem fs_e30 {σ : RS} {c : Int32} (h : (aI σ 19 c.toNatClampNeg).toInt = 30) : fsS σ c = fs_30 σ c := by
  unfold fsS
  rw [h]
  rfl
theorem fs_e31 {σ : RS} {c : Int32} (h : (aI σ 19 c.toNatClampNeg).toInt = 31) : fsS σ c = fs_31 σ c := by
  unfold fsS
  rw [h]
  rfl
theorem fs_e33 {σ : RS} {c : Int32} (h : (aI σ 19 c.toNatClampNeg).toInt = 33) : fsS σ c = fs_33 σ c := by
  unfold fsS
  rw [h]
  rfl
theorem fs_e35 {σ : RS} {c : Int32} (h : (aI σ 19 c.toNatClampNeg).toInt = 35) : fsS σ c = fs_35 σ c := by
  unfold fsS
  rw [h]
  rfl
theorem fs_e36 {σ : RS} {c : Int32} (h : (aI σ 19 c.toNatClampNeg).toInt = 36) : fsS σ c = fs_36 σ c := by
  unfold fsS
  rw [h]
  rfl
theorem fs_e37 {σ : RS} {c : Int32} (h : (aI σ 19 c.toNatClampNeg).toInt = 37) : fsS σ c = fs_37 σ c := by
  unfold fsS
  rw [h]
  rfl
theorem fs_e38 {σ : RS} {c : Int32} (h : (aI σ 19 c.toNatClampNeg).toInt = 38) : fsS σ c = fs_38 σ c := by
  unfold fsS
  rw [h]
  rfl
theorem fs_e39 {σ : RS} {c : Int32} (h : (aI σ 19 c.toNatClampNeg).toInt = 39) : fsS σ c = fs_39 σ c := by
  unfold fsS
  rw [h]
  rfl
theorem fs_e40 {σ : RS} {c : Int32} (h : (aI σ 19 c.toNatClampNeg).toInt = 40) : fsS σ c = fs_40 σ c := by
  unfold fsS
  rw [h]
  rfl
theorem fs_e42 {σ : RS} {c : Int32} (h : (aI σ 19 c.toNatClampNeg).toInt = 42) : fsS σ c = fs_42 σ c := by
  unfold fsS
  rw [h]
  rfl
theorem fs_e45 {σ : RS} {c : Int32} (h : (aI σ 19 c.toNatClampNeg).toInt = 45) : fsS σ c = fs_45 σ c := by
  unfold fsS
  rw [h]
  rfl
theorem fs_e46 {σ : RS} {c : Int32} (h : (aI σ 19 c.toNatClampNeg).toInt = 46) : fsS σ c = fs_46 σ c := by
  unfold fsS
  rw [h]
  rfl
theorem fs_e47 {σ : RS} {c : Int32} (h : (aI σ 19 c.toNatClampNeg).toInt = 47) : fsS σ c = fs_47 σ c := by
  unfold fsS
  rw [h]
  rfl
theorem fs_e48 {σ : RS} {c : Int32} (h : (aI σ 19 c.toNatClampNeg).toInt = 48) : fsS σ c = fs_48 σ c := by
  unfold fsS
  rw [h]
  rfl
theorem fs_e49 {σ : RS} {c : Int32} (h : (aI σ 19 c.toNatClampNeg).toInt = 49) : fsS σ c = fs_49 σ c := by
  unfold fsS
  rw [h]
  rfl
theorem fs_e50 {σ : RS} {c : Int32} (h : (aI σ 19 c.toNatClampNeg).toInt = 50) : fsS σ c = fs_50 σ c := by
  unfold fsS
  rw [h]
  rfl
theorem fs_e51 {σ : RS} {c : Int32} (h : (aI σ 19 c.toNatClampNeg).toInt = 51) : fsS σ c = fs_51 σ c := by
  unfold fsS
  rw [h]
  rfl
theorem fs_e52 {σ : RS} {c : Int32} (h : (aI σ 19 c.toNatClampNeg).toInt = 52) : fsS σ c = fs_52 σ c := by
  unfold fsS
  rw [h]
  rfl
theorem fs_e53 {σ : RS} {c : Int32} (h : (aI σ 19 c.toNatClampNeg).toInt = 53) : fsS σ c = fs_53 σ c := by
  unfold fsS
  rw [h]
  rfl
/-- whether 13, 14 are told -/
def ltR (σ : RS) (c : Int32) : Prop := ((aI σ 19 c.toNatClampNeg).toInt = 20 ∧ gI σ 92 = 0) ∨ ((aI σ 19 c.toNatClampNeg).toInt = 54 ∧ ¬ gI σ 92 = 0 ∧ ¬ (if aI σ 20 c.toNatClampNeg = 10 then (5 : Int32) else if aI σ 20 c.toNatClampNeg = 11 then 3 else aI σ 38 (aI σ 20 c.toNatClampNeg).toNatClampNeg) = 5)
theorem fs_d {σ : RS} {c : Int32} (h : ¬ ((20 ≤ (aI σ 19 c.toNatClampNeg).toInt ∧ (aI σ 19 c.toNatClampNeg).toInt ≤ 25) ∨ (aI σ 19 c.toNatClampNeg).toInt = 27 ∨ (aI σ 19 c.toNatClampNeg).toInt = 28 ∨ (aI σ 19 c.toNatClampNeg).toInt = 30 ∨ (aI σ 19 c.toNatClampNeg).toInt = 31 ∨ (aI σ 19 c.toNatClampNeg).toInt = 33 ∨ (aI σ 19 c.toNatClampNeg).toInt = 35 ∨ (aI σ 19 c.toNatClampNeg).toInt = 36 ∨ (aI σ 19 c.toNatClampNeg).toInt = 37 ∨ (aI σ 19 c.toNatClampNeg).toInt = 38 ∨ (aI σ 19 c.toNatClampNeg).toInt = 39 ∨ (aI σ 19 c.toNatClampNeg).toInt = 40 ∨ (aI σ 19 c.toNatClampNeg).toInt = 42 ∨ (aI σ 19 c.toNatClampNeg).toInt = 45 ∨ (aI σ 19 c.toNatClampNeg).toInt = 46 ∨ (aI σ 19 c.toNatClampNeg).toInt = 47 ∨ (aI σ 19 c.toNatClampNeg).toInt = 48 ∨ (aI σ 19 c.toNatClampNeg).toInt = 49 ∨ (aI σ 19 c.toNatClampNeg).toInt = 50 ∨ (aI σ 19 c.toNatClampNeg).toInt = 51 ∨ (aI σ 19 c.toNatClampNeg).toInt = 52 ∨ (aI σ 19 c.toNatClampNeg).toInt = 53)) : fsS σ c = (σ, c + 1) := by
  unfold fsS
  split
  all_goals first | rfl | (exfalso; omega)
def Pv_flowStep : UP1 := fun A1 σ => match A1 with
  | [.int c] => True
  | _ => False
def Qv_flowStep : UQ1 := fun A1 σ w τ => match A1 with
  | [.int c] => ∃ u p : Int32, (¬ u = 0 ↔ (¬ gI σ 112 = 0 ∨ ltR σ c)) ∧ τ = (fsS (laS σ u p) c).1 ∧ w = some (.int (fsS (laS σ u p) c).2)
  | _ => False
def Qw_flowStep : UQ1 := fun A1 σ w τ => Pv_flowStep A1 σ → Qv_flowStep A1 σ w τ
set_option maxRecDepth 100000 in
set_option maxHeartbeats 4000000 in
theorem v_flowStep : UMet 121 (Pv_flowStep) (Qv_flowStep) := by
  refine UMet.by BflowStep [(112, (fun _ _ => True), Qw_be), (119, (fun _ _ => True), Qw_come), (120, (fun _ _ => True), Qw_dead), (122, (fun _ _ => True), Qw_ended), (110, (fun _ _ => True), Qw_lateErr), (111, (fun _ _ => True), Qw_now), (85, (fun _ _ => True), Qw_resultOf)] rfl (ucc w_be (ucc w_come (ucc w_dead (ucc w_ended (ucc w_lateErr (ucc w_now (ucc w_resultOf uc0))))))) ?_
  intro A1 σ hP K hB hW
  unfold Pv_flowStep at hP
  split at hP
  next c =>
    have t66 : ∀ N : Nat, K N 66 [(0, .ref 1000), (1, .int c), (2, .int ((aI σ 20) (c).toNatClampNeg)), (3, .int ((aI σ 22) (c).toNatClampNeg)), (4, .int (alR σ c))] [.int (neR σ c)] σ := by
      intro N
      refine hB _ _ _ _ _ (fun m1 hm1 => ?_)
      dsimp only [ugo, uwp, ust, uct, rfd, BflowStep, BflowStep_66, Nat.beq, lv_args, rlk, rs1, rs2, rdl, rky, rcd, rno, rsw, Value.category, List.filter, List.take, List.drop, List.reverse, List.reverseAux, List.cons_append, List.nil_append, Option.toList, Int.toNat, Int.reduceToNat, if_pos, if_neg, reduceIte, ↓reduceIte, Nat.reduceAdd, Nat.reduceEqDiff, Nat.reduceBEq, beq_self_eq_true, Bool.not_true, Bool.not_false, Bool.and_true, Bool.and_false, Bool.true_and, Bool.false_and, gI_sI, gI_sL, gI_sA, gI_sM, gL_sI, gL_sL, gL_sA, gL_sM, aI_sI, aI_sL, aI_sA, aI_sM, aL_sI, aL_sL, aL_sA, aL_sM]; try dsimp only
      intro p2
      refine ⟨fun h3 => ?_, fun h3 => ?_⟩
      · have c3 : (aI σ 19 c.toNatClampNeg).toInt = 20 := (rfl : (aI σ 19 c.toNatClampNeg).toInt = (aI σ 19 c.toNatClampNeg).toInt).symm.trans h3
        refine hB _ _ _ _ _ (fun m4 hm4 => ?_)
        dsimp only [ugo, uwp, ust, uct, rfd, BflowStep, BflowStep_228, Nat.beq, lv_args, rlk, rs1, rs2, rdl, rky, rcd, rno, rsw, Value.category, List.filter, List.take, List.drop, List.reverse, List.reverseAux, List.cons_append, List.nil_append, Option.toList, Int.toNat, Int.reduceToNat, if_pos, if_neg, reduceIte, ↓reduceIte, Nat.reduceAdd, Nat.reduceEqDiff, Nat.reduceBEq, beq_self_eq_true, Bool.not_true, Bool.not_false, Bool.and_true, Bool.and_false, Bool.true_and, Bool.false_and, gI_sI, gI_sL, gI_sA, gI_sM, gL_sI, gL_sL, gL_sA, gL_sM, aI_sI, aI_sL, aI_sA, aI_sM, aL_sI, aL_sL, aL_sA, aL_sM]; try dsimp only
        refine ⟨fun h5 => ?_, fun h5 => ?_⟩
        · refine hB _ _ _ _ _ (fun m6 hm6 => ?_)
          dsimp only [ugo, uwp, ust, uct, rfd, BflowStep, BflowStep_242, Nat.beq, lv_args, rlk, rs1, rs2, rdl, rky, rcd, rno, rsw, Value.category, List.filter, List.take, List.drop, List.reverse, List.reverseAux, List.cons_append, List.nil_append, Option.toList, Int.toNat, Int.reduceToNat, if_pos, if_neg, reduceIte, ↓reduceIte, Nat.reduceAdd, Nat.reduceEqDiff, Nat.reduceBEq, beq_self_eq_true, Bool.not_true, Bool.not_false, Bool.and_true, Bool.and_false, Bool.true_and, Bool.false_and, gI_sI, gI_sL, gI_sA, gI_sM, gL_sI, gL_sL, gL_sA, gL_sM, aI_sI, aI_sL, aI_sA, aI_sM, aL_sI, aL_sL, aL_sA, aL_sM]; try dsimp only
          refine ⟨fun h7 => ?_, fun h7 => ?_⟩
          · refine hB _ _ _ _ _ (fun m8 hm8 => ?_)
            dsimp only [ugo, uwp, ust, uct, rfd, BflowStep, BflowStep_261, Nat.beq, lv_args, rlk, rs1, rs2, rdl, rky, rcd, rno, rsw, Value.category, List.filter, List.take, List.drop, List.reverse, List.reverseAux, List.cons_append, List.nil_append, Option.toList, Int.toNat, Int.reduceToNat, if_pos, if_neg, reduceIte, ↓reduceIte, Nat.reduceAdd, Nat.reduceEqDiff, Nat.reduceBEq, beq_self_eq_true, Bool.not_true, Bool.not_false, Bool.and_true, Bool.and_false, Bool.true_and, Bool.false_and, gI_sI, gI_sL, gI_sA, gI_sM, gL_sI, gL_sL, gL_sA, gL_sM, aI_sI, aI_sL, aI_sA, aI_sM, aL_sI, aL_sL, aL_sA, aL_sM, oi_1]; try dsimp only
            intro p9
            refine ⟨fun h10 => ?_, fun h10 => ?_⟩
            · refine hB _ _ _ _ _ (fun m11 hm11 => ?_)
              dsimp only [ugo, uwp, ust, uct, rfd, BflowStep, BflowStep_1420, Nat.beq, lv_args, rlk, rs1, rs2, rdl, rky, rcd, rno, rsw, Value.category, List.filter, List.take, List.drop, List.reverse, List.reverseAux, List.cons_append, List.nil_append, Option.toList, Int.toNat, Int.reduceToNat, if_pos, if_neg, reduceIte, ↓reduceIte, Nat.reduceAdd, Nat.reduceEqDiff, Nat.reduceBEq, beq_self_eq_true, Bool.not_true, Bool.not_false, Bool.and_true, Bool.and_false, Bool.true_and, Bool.false_and, gI_sI, gI_sL, gI_sA, gI_sM, gL_sI, gL_sL, gL_sA, gL_sM, aI_sI, aI_sL, aI_sA, aI_sM, aL_sI, aL_sL, aL_sA, aL_sM, oi_1]; try dsimp only
              unfold Qv_flowStep
              try dsimp only
              have es : fsS σ c = ((sI σ 92 1), (c + 1)) := (fs_e20 (by show (aI σ 19 c.toNatClampNeg).toInt = 20; omega)).trans (by unfold fs_20; rw [if_neg (show ¬ ((gI σ 92) = 0) from h7), if_neg (show ¬ (((aI σ 109) (((aI σ 22) (c).toNatClampNeg)).toNatClampNeg) = 0) from h10)])
              refine ⟨(gI σ 112), (gI σ 113), ⟨Or.inl, fun q => q.elim id (fun z => absurd z (fun z => z.elim (fun y => absurd y.2 (by assumption)) (fun y => by omega)))⟩, ?_, ?_⟩
              · rw [la_id]
                exact (congrArg Prod.fst es).symm
              · rw [la_id]
                exact congrArg (fun z => some (Value.int z)) (congrArg Prod.snd es).symm
            · refine hB _ _ _ _ _ (fun m12 hm12 => ?_)
              dsimp only [ugo, uwp, ust, uct, rfd, BflowStep, BflowStep_275, Nat.beq, lv_args, rlk, rs1, rs2, rdl, rky, rcd, rno, rsw, Value.category, List.filter, List.take, List.drop, List.reverse, List.reverseAux, List.cons_append, List.nil_append, Option.toList, Int.toNat, Int.reduceToNat, if_pos, if_neg, reduceIte, ↓reduceIte, Nat.reduceAdd, Nat.reduceEqDiff, Nat.reduceBEq, beq_self_eq_true, Bool.not_true, Bool.not_false, Bool.and_true, Bool.and_false, Bool.true_and, Bool.false_and, gI_sI, gI_sL, gI_sA, gI_sM, gL_sI, gL_sL, gL_sA, gL_sM, aI_sI, aI_sL, aI_sA, aI_sM, aL_sI, aL_sL, aL_sA, aL_sM, oi_1]; try dsimp only
              intro p13
              refine ⟨trivial, fun w14 τ14 hq14 => ?_⟩
              obtain ⟨rfl, rfl⟩ := hq14 trivial
              dsimp only [Option.toList, List.cons_append, List.nil_append, Nat.beq, gI_sI, gI_sL, gI_sA, gI_sM, gL_sI, gL_sL, gL_sA, gL_sM, aI_sI, aI_sL, aI_sA, aI_sM, aL_sI, aL_sL, aL_sA, aL_sM]
              intro p15
              refine hB _ _ _ _ _ (fun m16 hm16 => ?_)
              dsimp only [ugo, uwp, ust, uct, rfd, BflowStep, BflowStep_1420, Nat.beq, lv_args, rlk, rs1, rs2, rdl, rky, rcd, rno, rsw, Value.category, List.filter, List.take, List.drop, List.reverse, List.reverseAux, List.cons_append, List.nil_append, Option.toList, Int.toNat, Int.reduceToNat, if_pos, if_neg, reduceIte, ↓reduceIte, Nat.reduceAdd, Nat.reduceEqDiff, Nat.reduceBEq, beq_self_eq_true, Bool.not_true, Bool.not_false, Bool.and_true, Bool.and_false, Bool.true_and, Bool.false_and, gI_sI, gI_sL, gI_sA, gI_sM, gL_sI, gL_sL, gL_sA, gL_sM, aI_sI, aI_sL, aI_sA, aI_sM, aL_sI, aL_sL, aL_sA, aL_sM, oi_1]; try dsimp only
              unfold Qv_flowStep
              try dsimp only
              have es : fsS σ c = ((sM (sA (sI σ 92 1) 109 (upd (aI σ 109) (((aI σ 22) (c).toNatClampNeg)).toNatClampNeg 1)) 110 (vp_updL (aL σ 110) (((aI σ 22) (c).toNatClampNeg)).toNatClampNeg (nowR (sA (sI σ 92 1) 109 (upd (aI σ 109) (((aI σ 22) (c).toNatClampNeg)).toNatClampNeg 1))))), (c + 1)) := (fs_e20 (by show (aI σ 19 c.toNatClampNeg).toInt = 20; omega)).trans (by unfold fs_20; rw [if_neg (show ¬ ((gI σ 92) = 0) from h7), if_pos (show ((aI σ 109) (((aI σ 22) (c).toNatClampNeg)).toNatClampNeg) = 0 from h10)])
              refine ⟨(gI σ 112), (gI σ 113), ⟨Or.inl, fun q => q.elim id (fun z => absurd z (fun z => z.elim (fun y => absurd y.2 (by assumption)) (fun y => by omega)))⟩, ?_, ?_⟩
              · rw [la_id]
                exact (congrArg Prod.fst es).symm
              · rw [la_id]
                exact congrArg (fun z => some (Value.int z)) (congrArg Prod.snd es).symm
          · refine hB _ _ _ _ _ (fun m17 hm17 => ?_)
            dsimp only [ugo, uwp, ust, uct, rfd, BflowStep, BflowStep_249, Nat.beq, lv_args, rlk, rs1, rs2, rdl, rky, rcd, rno, rsw, Value.category, List.filter, List.take, List.drop, List.reverse, List.reverseAux, List.cons_append, List.nil_append, Option.toList, Int.toNat, Int.reduceToNat, if_pos, if_neg, reduceIte, ↓reduceIte, Nat.reduceAdd, Nat.reduceEqDiff, Nat.reduceBEq, beq_self_eq_true, Bool.not_true, Bool.not_false, Bool.and_true, Bool.and_false, Bool.true_and, Bool.false_and, gI_sI, gI_sL, gI_sA, gI_sM, gL_sI, gL_sL, gL_sA, gL_sM, aI_sI, aI_sL, aI_sA, aI_sM, aL_sI, aL_sL, aL_sA, aL_sM]; try dsimp only
            refine ⟨fun h18 => ?_, fun h18 => ?_⟩
            · refine hB _ _ _ _ _ (fun m19 hm19 => ?_)
              dsimp only [ugo, uwp, ust, uct, rfd, BflowStep, BflowStep_261, Nat.beq, lv_args, rlk, rs1, rs2, rdl, rky, rcd, rno, rsw, Value.category, List.filter, List.take, List.drop, List.reverse, List.reverseAux, List.cons_append, List.nil_append, Option.toList, Int.toNat, Int.reduceToNat, if_pos, if_neg, reduceIte, ↓reduceIte, Nat.reduceAdd, Nat.reduceEqDiff, Nat.reduceBEq, beq_self_eq_true, Bool.not_true, Bool.not_false, Bool.and_true, Bool.and_false, Bool.true_and, Bool.false_and, gI_sI, gI_sL, gI_sA, gI_sM, gL_sI, gL_sL, gL_sA, gL_sM, aI_sI, aI_sL, aI_sA, aI_sM, aL_sI, aL_sL, aL_sA, aL_sM, oi_1]; try dsimp only
              intro p20
              refine ⟨fun h21 => ?_, fun h21 => ?_⟩
              · refine hB _ _ _ _ _ (fun m22 hm22 => ?_)
                dsimp only [ugo, uwp, ust, uct, rfd, BflowStep, BflowStep_1420, Nat.beq, lv_args, rlk, rs1, rs2, rdl, rky, rcd, rno, rsw, Value.category, List.filter, List.take, List.drop, List.reverse, List.reverseAux, List.cons_append, List.nil_append, Option.toList, Int.toNat, Int.reduceToNat, if_pos, if_neg, reduceIte, ↓reduceIte, Nat.reduceAdd, Nat.reduceEqDiff, Nat.reduceBEq, beq_self_eq_true, Bool.not_true, Bool.not_false, Bool.and_true, Bool.and_false, Bool.true_and, Bool.false_and, gI_sI, gI_sL, gI_sA, gI_sM, gL_sI, gL_sL, gL_sA, gL_sM, aI_sI, aI_sL, aI_sA, aI_sM, aL_sI, aL_sL, aL_sA, aL_sM, oi_1]; try dsimp only
                unfold Qv_flowStep
                try dsimp only
                have es : fsS σ c = ((sI σ 92 1), (c + 1)) := (fs_e20 (by show (aI σ 19 c.toNatClampNeg).toInt = 20; omega)).trans (by unfold fs_20; rw [if_pos (show (gI σ 92) = 0 from h7), if_pos (show 0 ≤ (gI σ 117) from h18), if_neg (show ¬ (((aI σ 109) (((aI σ 22) (c).toNatClampNeg)).toNatClampNeg) = 0) from h21)])
                refine ⟨(gI σ 112), (gI σ 113), ⟨Or.inl, fun q => q.elim id (fun z => absurd z (fun z => z.elim (fun y => absurd y.2 (by assumption)) (fun y => by omega)))⟩, ?_, ?_⟩
                · rw [la_id]
                  exact (congrArg Prod.fst es).symm
                · rw [la_id]
                  exact congrArg (fun z => some (Value.int z)) (congrArg Prod.snd es).symm
              · refine hB _ _ _ _ _ (fun m23 hm23 => ?_)
                dsimp only [ugo, uwp, ust, uct, rfd, BflowStep, BflowStep_275, Nat.beq, lv_args, rlk, rs1, rs2, rdl, rky, rcd, rno, rsw, Value.category, List.filter, List.take, List.drop, List.reverse, List.reverseAux, List.cons_append, List.nil_append, Option.toList, Int.toNat, Int.reduceToNat, if_pos, if_neg, reduceIte, ↓reduceIte, Nat.reduceAdd, Nat.reduceEqDiff, Nat.reduceBEq, beq_self_eq_true, Bool.not_true, Bool.not_false, Bool.and_true, Bool.and_false, Bool.true_and, Bool.false_and, gI_sI, gI_sL, gI_sA, gI_sM, gL_sI, gL_sL, gL_sA, gL_sM, aI_sI, aI_sL, aI_sA, aI_sM, aL_sI, aL_sL, aL_sA, aL_sM, oi_1]; try dsimp only
                intro p24
                refine ⟨trivial, fun w25 τ25 hq25 => ?_⟩
                obtain ⟨rfl, rfl⟩ := hq25 trivial
                dsimp only [Option.toList, List.cons_append, List.nil_append, Nat.beq, gI_sI, gI_sL, gI_sA, gI_sM, gL_sI, gL_sL, gL_sA, gL_sM, aI_sI, aI_sL, aI_sA, aI_sM, aL_sI, aL_sL, aL_sA, aL_sM]
                intro p26
                refine hB _ _ _ _ _ (fun m27 hm27 => ?_)
                dsimp only [ugo, uwp, ust, uct, rfd, BflowStep, BflowStep_1420, Nat.beq, lv_args, rlk, rs1, rs2, rdl, rky, rcd, rno, rsw, Value.category, List.filter, List.take, List.drop, List.reverse, List.reverseAux, List.cons_append, List.nil_append, Option.toList, Int.toNat, Int.reduceToNat, if_pos, if_neg, reduceIte, ↓reduceIte, Nat.reduceAdd, Nat.reduceEqDiff, Nat.reduceBEq, beq_self_eq_true, Bool.not_true, Bool.not_false, Bool.and_true, Bool.and_false, Bool.true_and, Bool.false_and, gI_sI, gI_sL, gI_sA, gI_sM, gL_sI, gL_sL, gL_sA, gL_sM, aI_sI, aI_sL, aI_sA, aI_sM, aL_sI, aL_sL, aL_sA, aL_sM, oi_1]; try dsimp only
                unfold Qv_flowStep
                try dsimp only
                have es : fsS σ c = ((sM (sA (sI σ 92 1) 109 (upd (aI σ 109) (((aI σ 22) (c).toNatClampNeg)).toNatClampNeg 1)) 110 (vp_updL (aL σ 110) (((aI σ 22) (c).toNatClampNeg)).toNatClampNeg (nowR (sA (sI σ 92 1) 109 (upd (aI σ 109) (((aI σ 22) (c).toNatClampNeg)).toNatClampNeg 1))))), (c + 1)) := (fs_e20 (by show (aI σ 19 c.toNatClampNeg).toInt = 20; omega)).trans (by unfold fs_20; rw [if_pos (show (gI σ 92) = 0 from h7), if_pos (show 0 ≤ (gI σ 117) from h18), if_pos (show ((aI σ 109) (((aI σ 22) (c).toNatClampNeg)).toNatClampNeg) = 0 from h21)])
                refine ⟨(gI σ 112), (gI σ 113), ⟨Or.inl, fun q => q.elim id (fun z => absurd z (fun z => z.elim (fun y => absurd y.2 (by assumption)) (fun y => by omega)))⟩, ?_, ?_⟩
                · rw [la_id]
                  exact (congrArg Prod.fst es).symm
                · rw [la_id]
                  exact congrArg (fun z => some (Value.int z)) (congrArg Prod.snd es).symm
            · refine hB _ _ _ _ _ (fun m28 hm28 => ?_)
              dsimp only [ugo, uwp, ust, uct, rfd, BflowStep, BflowStep_256, Nat.beq, lv_args, rlk, rs1, rs2, rdl, rky, rcd, rno, rsw, Value.category, List.filter, List.take, List.drop, List.reverse, List.reverseAux, List.cons_append, List.nil_append, Option.toList, Int.toNat, Int.reduceToNat, if_pos, if_neg, reduceIte, ↓reduceIte, Nat.reduceAdd, Nat.reduceEqDiff, Nat.reduceBEq, beq_self_eq_true, Bool.not_true, Bool.not_false, Bool.and_true, Bool.and_false, Bool.true_and, Bool.false_and, gI_sI, gI_sL, gI_sA, gI_sM, gL_sI, gL_sL, gL_sA, gL_sM, aI_sI, aI_sL, aI_sA, aI_sM, aL_sI, aL_sL, aL_sA, aL_sM]; try dsimp only
              refine hB _ _ _ _ _ (fun m29 hm29 => ?_)
              dsimp only [ugo, uwp, ust, uct, rfd, BflowStep, BflowStep_261, Nat.beq, lv_args, rlk, rs1, rs2, rdl, rky, rcd, rno, rsw, Value.category, List.filter, List.take, List.drop, List.reverse, List.reverseAux, List.cons_append, List.nil_append, Option.toList, Int.toNat, Int.reduceToNat, if_pos, if_neg, reduceIte, ↓reduceIte, Nat.reduceAdd, Nat.reduceEqDiff, Nat.reduceBEq, beq_self_eq_true, Bool.not_true, Bool.not_false, Bool.and_true, Bool.and_false, Bool.true_and, Bool.false_and, gI_sI, gI_sL, gI_sA, gI_sM, gL_sI, gL_sL, gL_sA, gL_sM, aI_sI, aI_sL, aI_sA, aI_sM, aL_sI, aL_sL, aL_sA, aL_sM, oi_1]; try dsimp only
              intro p30
              refine ⟨fun h31 => ?_, fun h31 => ?_⟩
              · refine hB _ _ _ _ _ (fun m32 hm32 => ?_)
                dsimp only [ugo, uwp, ust, uct, rfd, BflowStep, BflowStep_1420, Nat.beq, lv_args, rlk, rs1, rs2, rdl, rky, rcd, rno, rsw, Value.category, List.filter, List.take, List.drop, List.reverse, List.reverseAux, List.cons_append, List.nil_append, Option.toList, Int.toNat, Int.reduceToNat, if_pos, if_neg, reduceIte, ↓reduceIte, Nat.reduceAdd, Nat.reduceEqDiff, Nat.reduceBEq, beq_self_eq_true, Bool.not_true, Bool.not_false, Bool.and_true, Bool.and_false, Bool.true_and, Bool.false_and, gI_sI, gI_sL, gI_sA, gI_sM, gL_sI, gL_sL, gL_sA, gL_sM, aI_sI, aI_sL, aI_sA, aI_sM, aL_sI, aL_sL, aL_sA, aL_sM, oi_1]; try dsimp only
                unfold Qv_flowStep
                try dsimp only
                have es : fsS σ c = ((sI (sI σ 117 c) 92 1), (c + 1)) := (fs_e20 (by show (aI σ 19 c.toNatClampNeg).toInt = 20; omega)).trans (by unfold fs_20; rw [if_pos (show (gI σ 92) = 0 from h7), if_neg (show ¬ (0 ≤ (gI σ 117)) from h18), if_neg (show ¬ (((aI σ 109) (((aI σ 22) (c).toNatClampNeg)).toNatClampNeg) = 0) from h31)])
                refine ⟨(gI σ 112), (gI σ 113), ⟨Or.inl, fun q => q.elim id (fun z => absurd z (fun z => z.elim (fun y => absurd y.2 (by assumption)) (fun y => by omega)))⟩, ?_, ?_⟩
                · rw [la_id]
                  exact (congrArg Prod.fst es).symm
                · rw [la_id]
                  exact congrArg (fun z => some (Value.int z)) (congrArg Prod.snd es).symm
              · refine hB _ _ _ _ _ (fun m33 hm33 => ?_)
                dsimp only [ugo, uwp, ust, uct, rfd, BflowStep, BflowStep_275, Nat.beq, lv_args, rlk, rs1, rs2, rdl, rky, rcd, rno, rsw, Value.category, List.filter, List.take, List.drop, List.reverse, List.reverseAux, List.cons_append, List.nil_append, Option.toList, Int.toNat, Int.reduceToNat, if_pos, if_neg, reduceIte, ↓reduceIte, Nat.reduceAdd, Nat.reduceEqDiff, Nat.reduceBEq, beq_self_eq_true, Bool.not_true, Bool.not_false, Bool.and_true, Bool.and_false, Bool.true_and, Bool.false_and, gI_sI, gI_sL, gI_sA, gI_sM, gL_sI, gL_sL, gL_sA, gL_sM, aI_sI, aI_sL, aI_sA, aI_sM, aL_sI, aL_sL, aL_sA, aL_sM, oi_1]; try dsimp only
                intro p34
                refine ⟨trivial, fun w35 τ35 hq35 => ?_⟩
                obtain ⟨rfl, rfl⟩ := hq35 trivial
                dsimp only [Option.toList, List.cons_append, List.nil_append, Nat.beq, gI_sI, gI_sL, gI_sA, gI_sM, gL_sI, gL_sL, gL_sA, gL_sM, aI_sI, aI_sL, aI_sA, aI_sM, aL_sI, aL_sL, aL_sA, aL_sM]
                intro p36
                refine hB _ _ _ _ _ (fun m37 hm37 => ?_)
                dsimp only [ugo, uwp, ust, uct, rfd, BflowStep, BflowStep_1420, Nat.beq, lv_args, rlk, rs1, rs2, rdl, rky, rcd, rno, rsw, Value.category, List.filter, List.take, List.drop, List.reverse, List.reverseAux, List.cons_append, List.nil_append, Option.toList, Int.toNat, Int.reduceToNat, if_pos, if_neg, reduceIte, ↓reduceIte, Nat.reduceAdd, Nat.reduceEqDiff, Nat.reduceBEq, beq_self_eq_true, Bool.not_true, Bool.not_false, Bool.and_true, Bool.and_false, Bool.true_and, Bool.false_and, gI_sI, gI_sL, gI_sA, gI_sM, gL_sI, gL_sL, gL_sA, gL_sM, aI_sI, aI_sL, aI_sA, aI_sM, aL_sI, aL_sL, aL_sA, aL_sM, oi_1]; try dsimp only
                unfold Qv_flowStep
                try dsimp only
                have es : fsS σ c = ((sM (sA (sI (sI σ 117 c) 92 1) 109 (upd (aI σ 109) (((aI σ 22) (c).toNatClampNeg)).toNatClampNeg 1)) 110 (vp_updL (aL σ 110) (((aI σ 22) (c).toNatClampNeg)).toNatClampNeg (nowR (sA (sI (sI σ 117 c) 92 1) 109 (upd (aI σ 109) (((aI σ 22) (c).toNatClampNeg)).toNatClampNeg 1))))), (c + 1)) := (fs_e20 (by show (aI σ 19 c.toNatClampNeg).toInt = 20; omega)).trans (by unfold fs_20; rw [if_pos (show (gI σ 92) = 0 from h7), if_neg (show ¬ (0 ≤ (gI σ 117)) from h18), if_pos (show ((aI σ 109) (((aI σ 22) (c).toNatClampNeg)).toNatClampNeg) = 0 from h31)])
                refine ⟨(gI σ 112), (gI σ 113), ⟨Or.inl, fun q => q.elim id (fun z => absurd z (fun z => z.elim (fun y => absurd y.2 (by assumption)) (fun y => by omega)))⟩, ?_, ?_⟩
                · rw [la_id]
                  exact (congrArg Prod.fst es).symm
                · rw [la_id]
                  exact congrArg (fun z => some (Value.int z)) (congrArg Prod.snd es).symm
        · refine hB _ _ _ _ _ (fun m38 hm38 => ?_)
          dsimp only [ugo, uwp, ust, uct, rfd, BflowStep, BflowStep_235, Nat.beq, lv_args, rlk, rs1, rs2, rdl, rky, rcd, rno, rsw, Value.category, List.filter, List.take, List.drop, List.reverse, List.reverseAux, List.cons_append, List.nil_append, Option.toList, Int.toNat, Int.reduceToNat, if_pos, if_neg, reduceIte, ↓reduceIte, Nat.reduceAdd, Nat.reduceEqDiff, Nat.reduceBEq, beq_self_eq_true, Bool.not_true, Bool.not_false, Bool.and_true, Bool.and_false, Bool.true_and, Bool.false_and, gI_sI, gI_sL, gI_sA, gI_sM, gL_sI, gL_sL, gL_sA, gL_sM, aI_sI, aI_sL, aI_sA, aI_sM, aL_sI, aL_sL, aL_sA, aL_sM, oi_13]; try dsimp only
          refine ⟨trivial, fun w39 τ39 hq39 => ?_⟩
          obtain ⟨rfl, u39, p39_, hu39, rfl⟩ := hq39 (show ¬ (13 : Int32) = 0 by decide)
          dsimp only [Option.toList, List.cons_append, List.nil_append, Nat.beq, gI_sI, gI_sL, gI_sA, gI_sM, gL_sI, gL_sL, gL_sA, gL_sM, aI_sI, aI_sL, aI_sA, aI_sM, aL_sI, aL_sL, aL_sA, aL_sM]
          refine hB _ _ _ _ _ (fun m40 hm40 => ?_)
          dsimp only [ugo, uwp, ust, uct, rfd, BflowStep, BflowStep_242, Nat.beq, lv_args, rlk, rs1, rs2, rdl, rky, rcd, rno, rsw, Value.category, List.filter, List.take, List.drop, List.reverse, List.reverseAux, List.cons_append, List.nil_append, Option.toList, Int.toNat, Int.reduceToNat, if_pos, if_neg, reduceIte, ↓reduceIte, Nat.reduceAdd, Nat.reduceEqDiff, Nat.reduceBEq, beq_self_eq_true, Bool.not_true, Bool.not_false, Bool.and_true, Bool.and_false, Bool.true_and, Bool.false_and, gI_sI, gI_sL, gI_sA, gI_sM, gL_sI, gL_sL, gL_sA, gL_sM, aI_sI, aI_sL, aI_sA, aI_sM, aL_sI, aL_sL, aL_sA, aL_sM]; try dsimp only
          refine ⟨fun h41 => ?_, fun h41 => ?_⟩
          · refine hB _ _ _ _ _ (fun m42 hm42 => ?_)
            dsimp only [ugo, uwp, ust, uct, rfd, BflowStep, BflowStep_261, Nat.beq, lv_args, rlk, rs1, rs2, rdl, rky, rcd, rno, rsw, Value.category, List.filter, List.take, List.drop, List.reverse, List.reverseAux, List.cons_append, List.nil_append, Option.toList, Int.toNat, Int.reduceToNat, if_pos, if_neg, reduceIte, ↓reduceIte, Nat.reduceAdd, Nat.reduceEqDiff, Nat.reduceBEq, beq_self_eq_true, Bool.not_true, Bool.not_false, Bool.and_true, Bool.and_false, Bool.true_and, Bool.false_and, gI_sI, gI_sL, gI_sA, gI_sM, gL_sI, gL_sL, gL_sA, gL_sM, aI_sI, aI_sL, aI_sA, aI_sM, aL_sI, aL_sL, aL_sA, aL_sM, oi_1]; try dsimp only
            intro p43
            refine ⟨fun h44 => ?_, fun h44 => ?_⟩
            · refine hB _ _ _ _ _ (fun m45 hm45 => ?_)
              dsimp only [ugo, uwp, ust, uct, rfd, BflowStep, BflowStep_1420, Nat.beq, lv_args, rlk, rs1, rs2, rdl, rky, rcd, rno, rsw, Value.category, List.filter, List.take, List.drop, List.reverse, List.reverseAux, List.cons_append, List.nil_append, Option.toList, Int.toNat, Int.reduceToNat, if_pos, if_neg, reduceIte, ↓reduceIte, Nat.reduceAdd, Nat.reduceEqDiff, Nat.reduceBEq, beq_self_eq_true, Bool.not_true, Bool.not_false, Bool.and_true, Bool.and_false, Bool.true_and, Bool.false_and, gI_sI, gI_sL, gI_sA, gI_sM, gL_sI, gL_sL, gL_sA, gL_sM, aI_sI, aI_sL, aI_sA, aI_sM, aL_sI, aL_sL, aL_sA, aL_sM, oi_1]; try dsimp only
              unfold Qv_flowStep
              try dsimp only
              have es : fsS (laS σ u39 p39_) c = ((sI (laS σ u39 p39_) 92 1), (c + 1)) := (fs_e20 (by show (aI σ 19 c.toNatClampNeg).toInt = 20; omega)).trans (by unfold fs_20; rw [if_neg (show ¬ ((gI (laS σ u39 p39_) 92) = 0) from h41), if_neg (show ¬ (((aI (laS σ u39 p39_) 109) (((aI (laS σ u39 p39_) 22) (c).toNatClampNeg)).toNatClampNeg) = 0) from h44)])
              refine ⟨u39, p39_, ⟨fun _ => Or.inr (Or.inl ⟨by omega, by assumption⟩), fun _ => hu39⟩, ?_, ?_⟩
              · exact (congrArg Prod.fst es).symm
              · exact congrArg (fun z => some (Value.int z)) (congrArg Prod.snd es).symm
            · refine hB _ _ _ _ _ (fun m46 hm46 => ?_)
              dsimp only [ugo, uwp, ust, uct, rfd, BflowStep, BflowStep_275, Nat.beq, lv_args, rlk, rs1, rs2, rdl, rky, rcd, rno, rsw, Value.category, List.filter, List.take, List.drop, List.reverse, List.reverseAux, List.cons_append, List.nil_append, Option.toList, Int.toNat, Int.reduceToNat, if_pos, if_neg, reduceIte, ↓reduceIte, Nat.reduceAdd, Nat.reduceEqDiff, Nat.reduceBEq, beq_self_eq_true, Bool.not_true, Bool.not_false, Bool.and_true, Bool.and_false, Bool.true_and, Bool.false_and, gI_sI, gI_sL, gI_sA, gI_sM, gL_sI, gL_sL, gL_sA, gL_sM, aI_sI, aI_sL, aI_sA, aI_sM, aL_sI, aL_sL, aL_sA, aL_sM, oi_1]; try dsimp only
              intro p47
              refine ⟨trivial, fun w48 τ48 hq48 => ?_⟩
              obtain ⟨rfl, rfl⟩ := hq48 trivial
              dsimp only [Option.toList, List.cons_append, List.nil_append, Nat.beq, gI_sI, gI_sL, gI_sA, gI_sM, gL_sI, gL_sL, gL_sA, gL_sM, aI_sI, aI_sL, aI_sA, aI_sM, aL_sI, aL_sL, aL_sA, aL_sM]
              intro p49
              refine hB _ _ _ _ _ (fun m50 hm50 => ?_)
              dsimp only [ugo, uwp, ust, uct, rfd, BflowStep, BflowStep_1420, Nat.beq, lv_args, rlk, rs1, rs2, rdl, rky, rcd, rno, rsw, Value.category, List.filter, List.take, List.drop, List.reverse, List.reverseAux, List.cons_append, List.nil_append, Option.toList, Int.toNat, Int.reduceToNat, if_pos, if_neg, reduceIte, ↓reduceIte, Nat.reduceAdd, Nat.reduceEqDiff, Nat.reduceBEq, beq_self_eq_true, Bool.not_true, Bool.not_false, Bool.and_true, Bool.and_false, Bool.true_and, Bool.false_and, gI_sI, gI_sL, gI_sA, gI_sM, gL_sI, gL_sL, gL_sA, gL_sM, aI_sI, aI_sL, aI_sA, aI_sM, aL_sI, aL_sL, aL_sA, aL_sM, oi_1]; try dsimp only
              unfold Qv_flowStep
              try dsimp only
              have es : fsS (laS σ u39 p39_) c = ((sM (sA (sI (laS σ u39 p39_) 92 1) 109 (upd (aI (laS σ u39 p39_) 109) (((aI (laS σ u39 p39_) 22) (c).toNatClampNeg)).toNatClampNeg 1)) 110 (vp_updL (aL (laS σ u39 p39_) 110) (((aI (laS σ u39 p39_) 22) (c).toNatClampNeg)).toNatClampNeg (nowR (sA (sI (laS σ u39 p39_) 92 1) 109 (upd (aI (laS σ u39 p39_) 109) (((aI (laS σ u39 p39_) 22) (c).toNatClampNeg)).toNatClampNeg 1))))), (c + 1)) := (fs_e20 (by show (aI σ 19 c.toNatClampNeg).toInt = 20; omega)).trans (by unfold fs_20; rw [if_neg (show ¬ ((gI (laS σ u39 p39_) 92) = 0) from h41), if_pos (show ((aI (laS σ u39 p39_) 109) (((aI (laS σ u39 p39_) 22) (c).toNatClampNeg)).toNatClampNeg) = 0 from h44)])
              refine ⟨u39, p39_, ⟨fun _ => Or.inr (Or.inl ⟨by omega, by assumption⟩), fun _ => hu39⟩, ?_, ?_⟩
              · exact (congrArg Prod.fst es).symm
              · exact congrArg (fun z => some (Value.int z)) (congrArg Prod.snd es).symm
          · refine hB _ _ _ _ _ (fun m51 hm51 => ?_)
            dsimp only [ugo, uwp, ust, uct, rfd, BflowStep, BflowStep_249, Nat.beq, lv_args, rlk, rs1, rs2, rdl, rky, rcd, rno, rsw, Value.category, List.filter, List.take, List.drop, List.reverse, List.reverseAux, List.cons_append, List.nil_append, Option.toList, Int.toNat, Int.reduceToNat, if_pos, if_neg, reduceIte, ↓reduceIte, Nat.reduceAdd, Nat.reduceEqDiff, Nat.reduceBEq, beq_self_eq_true, Bool.not_true, Bool.not_false, Bool.and_true, Bool.and_false, Bool.true_and, Bool.false_and, gI_sI, gI_sL, gI_sA, gI_sM, gL_sI, gL_sL, gL_sA, gL_sM, aI_sI, aI_sL, aI_sA, aI_sM, aL_sI, aL_sL, aL_sA, aL_sM]; try dsimp only
            refine ⟨fun h52 => ?_, fun h52 => ?_⟩
            · refine hB _ _ _ _ _ (fun m53 hm53 => ?_)
              dsimp only [ugo, uwp, ust, uct, rfd, BflowStep, BflowStep_261, Nat.beq, lv_args, rlk, rs1, rs2, rdl, rky, rcd, rno, rsw, Value.category, List.filter, List.take, List.drop, List.reverse, List.reverseAux, List.cons_append, List.nil_append, Option.toList, Int.toNat, Int.reduceToNat, if_pos, if_neg, reduceIte, ↓reduceIte, Nat.reduceAdd, Nat.reduceEqDiff, Nat.reduceBEq, beq_self_eq_true, Bool.not_true, Bool.not_false, Bool.and_true, Bool.and_false, Bool.true_and, Bool.false_and, gI_sI, gI_sL, gI_sA, gI_sM, gL_sI, gL_sL, gL_sA, gL_sM, aI_sI, aI_sL, aI_sA, aI_sM, aL_sI, aL_sL, aL_sA, aL_sM, oi_1]; try dsimp only
              intro p54
              refine ⟨fun h55 => ?_, fun h55 => ?_⟩
              · refine hB _ _ _ _ _ (fun m56 hm56 => ?_)
                dsimp only [ugo, uwp, ust, uct, rfd, BflowStep, BflowStep_1420, Nat.beq, lv_args, rlk, rs1, rs2, rdl, rky, rcd, rno, rsw, Value.category, List.filter, List.take, List.drop, List.reverse, List.reverseAux, List.cons_append, List.nil_append, Option.toList, Int.toNat, Int.reduceToNat, if_pos, if_neg, reduceIte, ↓reduceIte, Nat.reduceAdd, Nat.reduceEqDiff, Nat.reduceBEq, beq_self_eq_true, Bool.not_true, Bool.not_false, Bool.and_true, Bool.and_false, Bool.true_and, Bool.false_and, gI_sI, gI_sL, gI_sA, gI_sM, gL_sI, gL_sL, gL_sA, gL_sM, aI_sI, aI_sL, aI_sA, aI_sM, aL_sI, aL_sL, aL_sA, aL_sM, oi_1]; try dsimp only
                unfold Qv_flowStep
                try dsimp only
                have es : fsS (laS σ u39 p39_) c = ((sI (laS σ u39 p39_) 92 1), (c + 1)) := (fs_e20 (by show (aI σ 19 c.toNatClampNeg).toInt = 20; omega)).trans (by unfold fs_20; rw [if_pos (show (gI (laS σ u39 p39_) 92) = 0 from h41), if_pos (show 0 ≤ (gI (laS σ u39 p39_) 117) from h52), if_neg (show ¬ (((aI (laS σ u39 p39_) 109) (((aI (laS σ u39 p39_) 22) (c).toNatClampNeg)).toNatClampNeg) = 0) from h55)])
                refine ⟨u39, p39_, ⟨fun _ => Or.inr (Or.inl ⟨by omega, by assumption⟩), fun _ => hu39⟩, ?_, ?_⟩
                · exact (congrArg Prod.fst es).symm
                · exact congrArg (fun z => some (Value.int z)) (congrArg Prod.snd es).symm
              · refine hB _ _ _ _ _ (fun m57 hm57 => ?_)
                dsimp only [ugo, uwp, ust, uct, rfd, BflowStep, BflowStep_275, Nat.beq, lv_args, rlk, rs1, rs2, rdl, rky, rcd, rno, rsw, Value.category, List.filter, List.take, List.drop, List.reverse, List.reverseAux, List.cons_append, List.nil_append, Option.toList, Int.toNat, Int.reduceToNat, if_pos, if_neg, reduceIte, ↓reduceIte, Nat.reduceAdd, Nat.reduceEqDiff, Nat.reduceBEq, beq_self_eq_true, Bool.not_true, Bool.not_false, Bool.and_true, Bool.and_false, Bool.true_and, Bool.false_and, gI_sI, gI_sL, gI_sA, gI_sM, gL_sI, gL_sL, gL_sA, gL_sM, aI_sI, aI_sL, aI_sA, aI_sM, aL_sI, aL_sL, aL_sA, aL_sM, oi_1]; try dsimp only
                intro p58
                refine ⟨trivial, fun w59 τ59 hq59 => ?_⟩
                obtain ⟨rfl, rfl⟩ := hq59 trivial
                dsimp only [Option.toList, List.cons_append, List.nil_append, Nat.beq, gI_sI, gI_sL, gI_sA, gI_sM, gL_sI, gL_sL, gL_sA, gL_sM, aI_sI, aI_sL, aI_sA, aI_sM, aL_sI, aL_sL, aL_sA, aL_sM]
                intro p60
                refine hB _ _ _ _ _ (fun m61 hm61 => ?_)
                dsimp only [ugo, uwp, ust, uct, rfd, BflowStep, BflowStep_1420, Nat.beq, lv_args, rlk, rs1, rs2, rdl, rky, rcd, rno, rsw, Value.category, List.filter, List.take, List.drop, List.reverse, List.reverseAux, List.cons_append, List.nil_append, Option.toList, Int.toNat, Int.reduceToNat, if_pos, if_neg, reduceIte, ↓reduceIte, Nat.reduceAdd, Nat.reduceEqDiff, Nat.reduceBEq, beq_self_eq_true, Bool.not_true, Bool.not_false, Bool.and_true, Bool.and_false, Bool.true_and, Bool.false_and, gI_sI, gI_sL, gI_sA, gI_sM, gL_sI, gL_sL, gL_sA, gL_sM, aI_sI, aI_sL, aI_sA, aI_sM, aL_sI, aL_sL, aL_sA, aL_sM, oi_1]; try dsimp only
                unfold Qv_flowStep
                try dsimp only
                have es : fsS (laS σ u39 p39_) c = ((sM (sA (sI (laS σ u39 p39_) 92 1) 109 (upd (aI (laS σ u39 p39_) 109) (((aI (laS σ u39 p39_) 22) (c).toNatClampNeg)).toNatClampNeg 1)) 110 (vp_updL (aL (laS σ u39 p39_) 110) (((aI (laS σ u39 p39_) 22) (c).toNatClampNeg)).toNatClampNeg (nowR (sA (sI (laS σ u39 p39_) 92 1) 109 (upd (aI (laS σ u39 p39_) 109) (((aI (laS σ u39 p39_) 22) (c).toNatClampNeg)).toNatClampNeg 1))))), (c + 1)) := (fs_e20 (by show (aI σ 19 c.toNatClampNeg).toInt = 20; omega)).trans (by unfold fs_20; rw [if_pos (show (gI (laS σ u39 p39_) 92) = 0 from h41), if_pos (show 0 ≤ (gI (laS σ u39 p39_) 117) from h52), if_pos (show ((aI (laS σ u39 p39_) 109) (((aI (laS σ u39 p39_) 22) (c).toNatClampNeg)).toNatClampNeg) = 0 from h55)])
                refine ⟨u39, p39_, ⟨fun _ => Or.inr (Or.inl ⟨by omega, by assumption⟩), fun _ => hu39⟩, ?_, ?_⟩
                · exact (congrArg Prod.fst es).symm
                · exact congrArg (fun z => some (Value.int z)) (congrArg Prod.snd es).symm
            · refine hB _ _ _ _ _ (fun m62 hm62 => ?_)
              dsimp only [ugo, uwp, ust, uct, rfd, BflowStep, BflowStep_256, Nat.beq, lv_args, rlk, rs1, rs2, rdl, rky, rcd, rno, rsw, Value.category, List.filter, List.take, List.drop, List.reverse, List.reverseAux, List.cons_append, List.nil_append, Option.toList, Int.toNat, Int.reduceToNat, if_pos, if_neg, reduceIte, ↓reduceIte, Nat.reduceAdd, Nat.reduceEqDiff, Nat.reduceBEq, beq_self_eq_true, Bool.not_true, Bool.not_false, Bool.and_true, Bool.and_false, Bool.true_and, Bool.false_and, gI_sI, gI_sL, gI_sA, gI_sM, gL_sI, gL_sL, gL_sA, gL_sM, aI_sI, aI_sL, aI_sA, aI_sM, aL_sI, aL_sL, aL_sA, aL_sM]; try dsimp only
              refine hB _ _ _ _ _ (fun m63 hm63 => ?_)
              dsimp only [ugo, uwp, ust, uct, rfd, BflowStep, BflowStep_261, Nat.beq, lv_args, rlk, rs1, rs2, rdl, rky, rcd, rno, rsw, Value.category, List.filter, List.take, List.drop, List.reverse, List.reverseAux, List.cons_append, List.nil_append, Option.toList, Int.toNat, Int.reduceToNat, if_pos, if_neg, reduceIte, ↓reduceIte, Nat.reduceAdd, Nat.reduceEqDiff, Nat.reduceBEq, beq_self_eq_true, Bool.not_true, Bool.not_false, Bool.and_true, Bool.and_false, Bool.true_and, Bool.false_and, gI_sI, gI_sL, gI_sA, gI_sM, gL_sI, gL_sL, gL_sA, gL_sM, aI_sI, aI_sL, aI_sA, aI_sM, aL_sI, aL_sL, aL_sA, aL_sM, oi_1]; try dsimp only
              intro p64
              refine ⟨fun h65 => ?_, fun h65 => ?_⟩
              · refine hB _ _ _ _ _ (fun m66 hm66 => ?_)
                dsimp only [ugo, uwp, ust, uct, rfd, BflowStep, BflowStep_1420, Nat.beq, lv_args, rlk, rs1, rs2, rdl, rky, rcd, rno, rsw, Value.category, List.filter, List.take, List.drop, List.reverse, List.reverseAux, List.cons_append, List.nil_append, Option.toList, Int.toNat, Int.reduceToNat, if_pos, if_neg, reduceIte, ↓reduceIte, Nat.reduceAdd, Nat.reduceEqDiff, Nat.reduceBEq, beq_self_eq_true, Bool.not_true, Bool.not_false, Bool.and_true, Bool.and_false, Bool.true_and, Bool.false_and, gI_sI, gI_sL, gI_sA, gI_sM, gL_sI, gL_sL, gL_sA, gL_sM, aI_sI, aI_sL, aI_sA, aI_sM, aL_sI, aL_sL, aL_sA, aL_sM, oi_1]; try dsimp only
                unfold Qv_flowStep
                try dsimp only
                have es : fsS (laS σ u39 p39_) c = ((sI (sI (laS σ u39 p39_) 117 c) 92 1), (c + 1)) := (fs_e20 (by show (aI σ 19 c.toNatClampNeg).toInt = 20; omega)).trans (by unfold fs_20; rw [if_pos (show (gI (laS σ u39 p39_) 92) = 0 from h41), if_neg (show ¬ (0 ≤ (gI (laS σ u39 p39_) 117)) from h52), if_neg (show ¬ (((aI (laS σ u39 p39_) 109) (((aI (laS σ u39 p39_) 22) (c).toNatClampNeg)).toNatClampNeg) = 0) from h65)])
                refine ⟨u39, p39_, ⟨fun _ => Or.inr (Or.inl ⟨by omega, by assumption⟩), fun _ => hu39⟩, ?_, ?_⟩
                · exact (congrArg Prod.fst es).symm
                · exact congrArg (fun z => some (Value.int z)) (congrArg Prod.snd es).symm
              · refine hB _ _ _ _ _ (fun m67 hm67 => ?_)
                dsimp only [ugo, uwp, ust, uct, rfd, BflowStep, BflowStep_275, Nat.beq, lv_args, rlk, rs1, rs2, rdl, rky, rcd, rno, rsw, Value.category, List.filter, List.take, List.drop, List.reverse, List.reverseAux, List.cons_append, List.nil_append, Option.toList, Int.toNat, Int.reduceToNat, if_pos, if_neg, reduceIte, ↓reduceIte, Nat.reduceAdd, Nat.reduceEqDiff, Nat.reduceBEq, beq_self_eq_true, Bool.not_true, Bool.not_false, Bool.and_true, Bool.and_false, Bool.true_and, Bool.false_and, gI_sI, gI_sL, gI_sA, gI_sM, gL_sI, gL_sL, gL_sA, gL_sM, aI_sI, aI_sL, aI_sA, aI_sM, aL_sI, aL_sL, aL_sA, aL_sM, oi_1]; try dsimp only
                intro p68
                refine ⟨trivial, fun w69 τ69 hq69 => ?_⟩
                obtain ⟨rfl, rfl⟩ := hq69 trivial
                dsimp only [Option.toList, List.cons_append, List.nil_append, Nat.beq, gI_sI, gI_sL, gI_sA, gI_sM, gL_sI, gL_sL, gL_sA, gL_sM, aI_sI, aI_sL, aI_sA, aI_sM, aL_sI, aL_sL, aL_sA, aL_sM]
                intro p70
                refine hB _ _ _ _ _ (fun m71 hm71 => ?_)
                dsimp only [ugo, uwp, ust, uct, rfd, BflowStep, BflowStep_1420, Nat.beq, lv_args, rlk, rs1, rs2, rdl, rky, rcd, rno, rsw, Value.category, List.filter, List.take, List.drop, List.reverse, List.reverseAux, List.cons_append, List.nil_append, Option.toList, Int.toNat, Int.reduceToNat, if_pos, if_neg, reduceIte, ↓reduceIte, Nat.reduceAdd, Nat.reduceEqDiff, Nat.reduceBEq, beq_self_eq_true, Bool.not_true, Bool.not_false, Bool.and_true, Bool.and_false, Bool.true_and, Bool.false_and, gI_sI, gI_sL, gI_sA, gI_sM, gL_sI, gL_sL, gL_sA, gL_sM, aI_sI, aI_sL, aI_sA, aI_sM, aL_sI, aL_sL, aL_sA, aL_sM, oi_1]; try dsimp only
                unfold Qv_flowStep
                try dsimp only
                have es : fsS (laS σ u39 p39_) c = ((sM (sA (sI (sI (laS σ u39 p39_) 117 c) 92 1) 109 (upd (aI (laS σ u39 p39_) 109) (((aI (laS σ u39 p39_) 22) (c).toNatClampNeg)).toNatClampNeg 1)) 110 (vp_updL (aL (laS σ u39 p39_) 110) (((aI (laS σ u39 p39_) 22) (c).toNatClampNeg)).toNatClampNeg (nowR (sA (sI (sI (laS σ u39 p39_) 117 c) 92 1) 109 (upd (aI (laS σ u39 p39_) 109) (((aI (laS σ u39 p39_) 22) (c).toNatClampNeg)).toNatClampNeg 1))))), (c + 1)) := (fs_e20 (by show (aI σ 19 c.toNatClampNeg).toInt = 20; omega)).trans (by unfold fs_20; rw [if_pos (show (gI (laS σ u39 p39_) 92) = 0 from h41), if_neg (show ¬ (0 ≤ (gI (laS σ u39 p39_) 117)) from h52), if_pos (show ((aI (laS σ u39 p39_) 109) (((aI (laS σ u39 p39_) 22) (c).toNatClampNeg)).toNatClampNeg) = 0 from h65)])
                refine ⟨u39, p39_, ⟨fun _ => Or.inr (Or.inl ⟨by omega, by assumption⟩), fun _ => hu39⟩, ?_, ?_⟩
                · exact (congrArg Prod.fst es).symm
                · exact congrArg (fun z => some (Value.int z)) (congrArg Prod.snd es).symm
      have c3 : ¬ (aI σ 19 c.toNatClampNeg).toInt = 20 := fun q => h3 ((rfl : (aI σ 19 c.toNatClampNeg).toInt = (aI σ 19 c.toNatClampNeg).toInt).trans q)
      refine ⟨fun h72 => ?_, fun h72 => ?_⟩
      · have c72 : (aI σ 19 c.toNatClampNeg).toInt = 21 := (rfl : (aI σ 19 c.toNatClampNeg).toInt = (aI σ 19 c.toNatClampNeg).toInt).symm.trans h72
        refine hB _ _ _ _ _ (fun m73 hm73 => ?_)
        dsimp only [ugo, uwp, ust, uct, rfd, BflowStep, BflowStep_327, Nat.beq, lv_args, rlk, rs1, rs2, rdl, rky, rcd, rno, rsw, Value.category, List.filter, List.take, List.drop, List.reverse, List.reverseAux, List.cons_append, List.nil_append, Option.toList, Int.toNat, Int.reduceToNat, if_pos, if_neg, reduceIte, ↓reduceIte, Nat.reduceAdd, Nat.reduceEqDiff, Nat.reduceBEq, beq_self_eq_true, Bool.not_true, Bool.not_false, Bool.and_true, Bool.and_false, Bool.true_and, Bool.false_and, gI_sI, gI_sL, gI_sA, gI_sM, gL_sI, gL_sL, gL_sA, gL_sM, aI_sI, aI_sL, aI_sA, aI_sM, aL_sI, aL_sL, aL_sA, aL_sM]; try dsimp only
        refine ⟨trivial, fun w74 τ74 hq74 => ?_⟩
        obtain ⟨rfl, rfl⟩ := hq74 trivial
        dsimp only [Option.toList, List.cons_append, List.nil_append, Nat.beq, gI_sI, gI_sL, gI_sA, gI_sM, gL_sI, gL_sL, gL_sA, gL_sM, aI_sI, aI_sL, aI_sA, aI_sM, aL_sI, aL_sL, aL_sA, aL_sM]
        refine ⟨trivial, fun w75 τ75 hq75 => ?_⟩
        obtain ⟨rfl, rfl⟩ := hq75 trivial
        dsimp only [Option.toList, List.cons_append, List.nil_append, Nat.beq, gI_sI, gI_sL, gI_sA, gI_sM, gL_sI, gL_sL, gL_sA, gL_sM, aI_sI, aI_sL, aI_sA, aI_sM, aL_sI, aL_sL, aL_sA, aL_sM]
        refine hB _ _ _ _ _ (fun m76 hm76 => ?_)
        dsimp only [ugo, uwp, ust, uct, rfd, BflowStep, BflowStep_1420, Nat.beq, lv_args, rlk, rs1, rs2, rdl, rky, rcd, rno, rsw, Value.category, List.filter, List.take, List.drop, List.reverse, List.reverseAux, List.cons_append, List.nil_append, Option.toList, Int.toNat, Int.reduceToNat, if_pos, if_neg, reduceIte, ↓reduceIte, Nat.reduceAdd, Nat.reduceEqDiff, Nat.reduceBEq, beq_self_eq_true, Bool.not_true, Bool.not_false, Bool.and_true, Bool.and_false, Bool.true_and, Bool.false_and, gI_sI, gI_sL, gI_sA, gI_sM, gL_sI, gL_sL, gL_sA, gL_sM, aI_sI, aI_sL, aI_sA, aI_sM, aL_sI, aL_sL, aL_sA, aL_sM, oi_1]; try dsimp only
        unfold Qv_flowStep
        try dsimp only
        have es : fsS σ c = ((beS σ (nowR σ)), (c + 1)) := (fs_e21 (by show (aI σ 19 c.toNatClampNeg).toInt = 21; omega)).trans (rfl)
        refine ⟨(gI σ 112), (gI σ 113), ⟨Or.inl, fun q => q.elim id (fun z => absurd z (fun z => z.elim (fun y => by omega) (fun y => by omega)))⟩, ?_, ?_⟩
        · rw [la_id]
          exact (congrArg Prod.fst es).symm
        · rw [la_id]
          exact congrArg (fun z => some (Value.int z)) (congrArg Prod.snd es).symm
      have c72 : ¬ (aI σ 19 c.toNatClampNeg).toInt = 21 := fun q => h72 ((rfl : (aI σ 19 c.toNatClampNeg).toInt = (aI σ 19 c.toNatClampNeg).toInt).trans q)
      refine ⟨fun h77 => ?_, fun h77 => ?_⟩
      · have c77 : (aI σ 19 c.toNatClampNeg).toInt = 22 := (rfl : (aI σ 19 c.toNatClampNeg).toInt = (aI σ 19 c.toNatClampNeg).toInt).symm.trans h77
        refine hB _ _ _ _ _ (fun m78 hm78 => ?_)
        dsimp only [ugo, uwp, ust, uct, rfd, BflowStep, BflowStep_338, Nat.beq, lv_args, rlk, rs1, rs2, rdl, rky, rcd, rno, rsw, Value.category, List.filter, List.take, List.drop, List.reverse, List.reverseAux, List.cons_append, List.nil_append, Option.toList, Int.toNat, Int.reduceToNat, if_pos, if_neg, reduceIte, ↓reduceIte, Nat.reduceAdd, Nat.reduceEqDiff, Nat.reduceBEq, beq_self_eq_true, Bool.not_true, Bool.not_false, Bool.and_true, Bool.and_false, Bool.true_and, Bool.false_and, gI_sI, gI_sL, gI_sA, gI_sM, gL_sI, gL_sL, gL_sA, gL_sM, aI_sI, aI_sL, aI_sA, aI_sM, aL_sI, aL_sL, aL_sA, aL_sM, oi_1]; try dsimp only
        intro p79
        refine ⟨fun h80 => ?_, fun h80 => ?_⟩
        · refine hB _ _ _ _ _ (fun m81 hm81 => ?_)
          dsimp only [ugo, uwp, ust, uct, rfd, BflowStep, BflowStep_360, Nat.beq, lv_args, rlk, rs1, rs2, rdl, rky, rcd, rno, rsw, Value.category, List.filter, List.take, List.drop, List.reverse, List.reverseAux, List.cons_append, List.nil_append, Option.toList, Int.toNat, Int.reduceToNat, if_pos, if_neg, reduceIte, ↓reduceIte, Nat.reduceAdd, Nat.reduceEqDiff, Nat.reduceBEq, beq_self_eq_true, Bool.not_true, Bool.not_false, Bool.and_true, Bool.and_false, Bool.true_and, Bool.false_and, gI_sI, gI_sL, gI_sA, gI_sM, gL_sI, gL_sL, gL_sA, gL_sM, aI_sI, aI_sL, aI_sA, aI_sM, aL_sI, aL_sL, aL_sA, aL_sM]; try dsimp only
          refine ⟨trivial, fun w82 τ82 hq82 => ?_⟩
          obtain ⟨rfl, rfl⟩ := hq82 trivial
          dsimp only [Option.toList, List.cons_append, List.nil_append, Nat.beq, gI_sI, gI_sL, gI_sA, gI_sM, gL_sI, gL_sL, gL_sA, gL_sM, aI_sI, aI_sL, aI_sA, aI_sM, aL_sI, aL_sL, aL_sA, aL_sM]
          refine hB _ _ _ _ _ (fun m83 hm83 => ?_)
          dsimp only [ugo, uwp, ust, uct, rfd, BflowStep, BflowStep_372, Nat.beq, lv_args, rlk, rs1, rs2, rdl, rky, rcd, rno, rsw, Value.category, List.filter, List.take, List.drop, List.reverse, List.reverseAux, List.cons_append, List.nil_append, Option.toList, Int.toNat, Int.reduceToNat, if_pos, if_neg, reduceIte, ↓reduceIte, Nat.reduceAdd, Nat.reduceEqDiff, Nat.reduceBEq, beq_self_eq_true, Bool.not_true, Bool.not_false, Bool.and_true, Bool.and_false, Bool.true_and, Bool.false_and, gI_sI, gI_sL, gI_sA, gI_sM, gL_sI, gL_sL, gL_sA, gL_sM, aI_sI, aI_sL, aI_sA, aI_sM, aL_sI, aL_sL, aL_sA, aL_sM]; try dsimp only
          refine ⟨trivial, fun w84 τ84 hq84 => ?_⟩
          obtain ⟨rfl, rfl⟩ := hq84 trivial
          dsimp only [Option.toList, List.cons_append, List.nil_append, Nat.beq, gI_sI, gI_sL, gI_sA, gI_sM, gL_sI, gL_sL, gL_sA, gL_sM, aI_sI, aI_sL, aI_sA, aI_sM, aL_sI, aL_sL, aL_sA, aL_sM]
          refine hB _ _ _ _ _ (fun m85 hm85 => ?_)
          dsimp only [ugo, uwp, ust, uct, rfd, BflowStep, BflowStep_1420, Nat.beq, lv_args, rlk, rs1, rs2, rdl, rky, rcd, rno, rsw, Value.category, List.filter, List.take, List.drop, List.reverse, List.reverseAux, List.cons_append, List.nil_append, Option.toList, Int.toNat, Int.reduceToNat, if_pos, if_neg, reduceIte, ↓reduceIte, Nat.reduceAdd, Nat.reduceEqDiff, Nat.reduceBEq, beq_self_eq_true, Bool.not_true, Bool.not_false, Bool.and_true, Bool.and_false, Bool.true_and, Bool.false_and, gI_sI, gI_sL, gI_sA, gI_sM, gL_sI, gL_sL, gL_sA, gL_sM, aI_sI, aI_sL, aI_sA, aI_sM, aL_sI, aL_sL, aL_sA, aL_sM, oi_1]; try dsimp only
          unfold Qv_flowStep
          try dsimp only
          have es : fsS σ c = ((beS σ ((nowR σ) &&& (((1 : Int64) <<< ((((aI σ 20) (c).toNatClampNeg)).toInt64 &&& 63)) ^^^ (Int64.ofInt (-1))))), (c + 1)) := (fs_e22 (by show (aI σ 19 c.toNatClampNeg).toInt = 22; omega)).trans (by unfold fs_22; rw [if_neg (show ¬ (((aI σ 21) (c).toNatClampNeg) = 1) from h80)])
          refine ⟨(gI σ 112), (gI σ 113), ⟨Or.inl, fun q => q.elim id (fun z => absurd z (fun z => z.elim (fun y => by omega) (fun y => by omega)))⟩, ?_, ?_⟩
          · rw [la_id]
            exact (congrArg Prod.fst es).symm
          · rw [la_id]
            exact congrArg (fun z => some (Value.int z)) (congrArg Prod.snd es).symm
        · refine hB _ _ _ _ _ (fun m86 hm86 => ?_)
          dsimp only [ugo, uwp, ust, uct, rfd, BflowStep, BflowStep_349, Nat.beq, lv_args, rlk, rs1, rs2, rdl, rky, rcd, rno, rsw, Value.category, List.filter, List.take, List.drop, List.reverse, List.reverseAux, List.cons_append, List.nil_append, Option.toList, Int.toNat, Int.reduceToNat, if_pos, if_neg, reduceIte, ↓reduceIte, Nat.reduceAdd, Nat.reduceEqDiff, Nat.reduceBEq, beq_self_eq_true, Bool.not_true, Bool.not_false, Bool.and_true, Bool.and_false, Bool.true_and, Bool.false_and, gI_sI, gI_sL, gI_sA, gI_sM, gL_sI, gL_sL, gL_sA, gL_sM, aI_sI, aI_sL, aI_sA, aI_sM, aL_sI, aL_sL, aL_sA, aL_sM]; try dsimp only
          refine ⟨trivial, fun w87 τ87 hq87 => ?_⟩
          obtain ⟨rfl, rfl⟩ := hq87 trivial
          dsimp only [Option.toList, List.cons_append, List.nil_append, Nat.beq, gI_sI, gI_sL, gI_sA, gI_sM, gL_sI, gL_sL, gL_sA, gL_sM, aI_sI, aI_sL, aI_sA, aI_sM, aL_sI, aL_sL, aL_sA, aL_sM]
          refine hB _ _ _ _ _ (fun m88 hm88 => ?_)
          dsimp only [ugo, uwp, ust, uct, rfd, BflowStep, BflowStep_372, Nat.beq, lv_args, rlk, rs1, rs2, rdl, rky, rcd, rno, rsw, Value.category, List.filter, List.take, List.drop, List.reverse, List.reverseAux, List.cons_append, List.nil_append, Option.toList, Int.toNat, Int.reduceToNat, if_pos, if_neg, reduceIte, ↓reduceIte, Nat.reduceAdd, Nat.reduceEqDiff, Nat.reduceBEq, beq_self_eq_true, Bool.not_true, Bool.not_false, Bool.and_true, Bool.and_false, Bool.true_and, Bool.false_and, gI_sI, gI_sL, gI_sA, gI_sM, gL_sI, gL_sL, gL_sA, gL_sM, aI_sI, aI_sL, aI_sA, aI_sM, aL_sI, aL_sL, aL_sA, aL_sM]; try dsimp only
          refine ⟨trivial, fun w89 τ89 hq89 => ?_⟩
          obtain ⟨rfl, rfl⟩ := hq89 trivial
          dsimp only [Option.toList, List.cons_append, List.nil_append, Nat.beq, gI_sI, gI_sL, gI_sA, gI_sM, gL_sI, gL_sL, gL_sA, gL_sM, aI_sI, aI_sL, aI_sA, aI_sM, aL_sI, aL_sL, aL_sA, aL_sM]
          refine hB _ _ _ _ _ (fun m90 hm90 => ?_)
          dsimp only [ugo, uwp, ust, uct, rfd, BflowStep, BflowStep_1420, Nat.beq, lv_args, rlk, rs1, rs2, rdl, rky, rcd, rno, rsw, Value.category, List.filter, List.take, List.drop, List.reverse, List.reverseAux, List.cons_append, List.nil_append, Option.toList, Int.toNat, Int.reduceToNat, if_pos, if_neg, reduceIte, ↓reduceIte, Nat.reduceAdd, Nat.reduceEqDiff, Nat.reduceBEq, beq_self_eq_true, Bool.not_true, Bool.not_false, Bool.and_true, Bool.and_false, Bool.true_and, Bool.false_and, gI_sI, gI_sL, gI_sA, gI_sM, gL_sI, gL_sL, gL_sA, gL_sM, aI_sI, aI_sL, aI_sA, aI_sM, aL_sI, aL_sL, aL_sA, aL_sM, oi_1]; try dsimp only
          unfold Qv_flowStep
          try dsimp only
          have es : fsS σ c = ((beS σ ((nowR σ) ||| ((1 : Int64) <<< ((((aI σ 20) (c).toNatClampNeg)).toInt64 &&& 63)))), (c + 1)) := (fs_e22 (by show (aI σ 19 c.toNatClampNeg).toInt = 22; omega)).trans (by unfold fs_22; rw [if_pos (show ((aI σ 21) (c).toNatClampNeg) = 1 from h80)])
          refine ⟨(gI σ 112), (gI σ 113), ⟨Or.inl, fun q => q.elim id (fun z => absurd z (fun z => z.elim (fun y => by omega) (fun y => by omega)))⟩, ?_, ?_⟩
          · rw [la_id]
            exact (congrArg Prod.fst es).symm
          · rw [la_id]
            exact congrArg (fun z => some (Value.int z)) (congrArg Prod.snd es).symm
      have c77 : ¬ (aI σ 19 c.toNatClampNeg).toInt = 22 := fun q => h77 ((rfl : (aI σ 19 c.toNatClampNeg).toInt = (aI σ 19 c.toNatClampNeg).toInt).trans q)
      refine ⟨fun h91 => ?_, fun h91 => ?_⟩
      · have c91 : (aI σ 19 c.toNatClampNeg).toInt = 23 := (rfl : (aI σ 19 c.toNatClampNeg).toInt = (aI σ 19 c.toNatClampNeg).toInt).symm.trans h91
        refine hB _ _ _ _ _ (fun m92 hm92 => ?_)
        dsimp only [ugo, uwp, ust, uct, rfd, BflowStep, BflowStep_378, Nat.beq, lv_args, rlk, rs1, rs2, rdl, rky, rcd, rno, rsw, Value.category, List.filter, List.take, List.drop, List.reverse, List.reverseAux, List.cons_append, List.nil_append, Option.toList, Int.toNat, Int.reduceToNat, if_pos, if_neg, reduceIte, ↓reduceIte, Nat.reduceAdd, Nat.reduceEqDiff, Nat.reduceBEq, beq_self_eq_true, Bool.not_true, Bool.not_false, Bool.and_true, Bool.and_false, Bool.true_and, Bool.false_and, gI_sI, gI_sL, gI_sA, gI_sM, gL_sI, gL_sL, gL_sA, gL_sM, aI_sI, aI_sL, aI_sA, aI_sM, aL_sI, aL_sL, aL_sA, aL_sM, oi_1]; try dsimp only
        intro p93
        refine ⟨trivial, fun w94 τ94 hq94 => ?_⟩
        obtain ⟨rfl, rfl⟩ := hq94 trivial
        dsimp only [Option.toList, List.cons_append, List.nil_append, Nat.beq, gI_sI, gI_sL, gI_sA, gI_sM, gL_sI, gL_sL, gL_sA, gL_sM, aI_sI, aI_sL, aI_sA, aI_sM, aL_sI, aL_sL, aL_sA, aL_sM]
        refine hB _ _ _ _ _ (fun m95 hm95 => ?_)
        dsimp only [ugo, uwp, ust, uct, rfd, BflowStep, BflowStep_1420, Nat.beq, lv_args, rlk, rs1, rs2, rdl, rky, rcd, rno, rsw, Value.category, List.filter, List.take, List.drop, List.reverse, List.reverseAux, List.cons_append, List.nil_append, Option.toList, Int.toNat, Int.reduceToNat, if_pos, if_neg, reduceIte, ↓reduceIte, Nat.reduceAdd, Nat.reduceEqDiff, Nat.reduceBEq, beq_self_eq_true, Bool.not_true, Bool.not_false, Bool.and_true, Bool.and_false, Bool.true_and, Bool.false_and, gI_sI, gI_sL, gI_sA, gI_sM, gL_sI, gL_sL, gL_sA, gL_sM, aI_sI, aI_sL, aI_sA, aI_sM, aL_sI, aL_sL, aL_sA, aL_sM, oi_1]; try dsimp only
        unfold Qv_flowStep
        try dsimp only
        have es : fsS σ c = ((sI (beS (sM σ 98 (vp_updL (aL σ 98) (((aI σ 20) (c).toNatClampNeg)).toNatClampNeg (gL σ 94))) (gL σ 93)) 92 1), (c + 1)) := (fs_e23 (by show (aI σ 19 c.toNatClampNeg).toInt = 23; omega)).trans (rfl)
        refine ⟨(gI σ 112), (gI σ 113), ⟨Or.inl, fun q => q.elim id (fun z => absurd z (fun z => z.elim (fun y => by omega) (fun y => by omega)))⟩, ?_, ?_⟩
        · rw [la_id]
          exact (congrArg Prod.fst es).symm
        · rw [la_id]
          exact congrArg (fun z => some (Value.int z)) (congrArg Prod.snd es).symm
      have c91 : ¬ (aI σ 19 c.toNatClampNeg).toInt = 23 := fun q => h91 ((rfl : (aI σ 19 c.toNatClampNeg).toInt = (aI σ 19 c.toNatClampNeg).toInt).trans q)
      refine ⟨fun h96 => ?_, fun h96 => ?_⟩
      · have c96 : (aI σ 19 c.toNatClampNeg).toInt = 24 := (rfl : (aI σ 19 c.toNatClampNeg).toInt = (aI σ 19 c.toNatClampNeg).toInt).symm.trans h96
        refine hB _ _ _ _ _ (fun m97 hm97 => ?_)
        dsimp only [ugo, uwp, ust, uct, rfd, BflowStep, BflowStep_404, Nat.beq, lv_args, rlk, rs1, rs2, rdl, rky, rcd, rno, rsw, Value.category, List.filter, List.take, List.drop, List.reverse, List.reverseAux, List.cons_append, List.nil_append, Option.toList, Int.toNat, Int.reduceToNat, if_pos, if_neg, reduceIte, ↓reduceIte, Nat.reduceAdd, Nat.reduceEqDiff, Nat.reduceBEq, beq_self_eq_true, Bool.not_true, Bool.not_false, Bool.and_true, Bool.and_false, Bool.true_and, Bool.false_and, gI_sI, gI_sL, gI_sA, gI_sM, gL_sI, gL_sL, gL_sA, gL_sM, aI_sI, aI_sL, aI_sA, aI_sM, aL_sI, aL_sL, aL_sA, aL_sM, oi_1]; try dsimp only
        intro p98
        refine ⟨trivial, fun w99 τ99 hq99 => ?_⟩
        obtain ⟨rfl, rfl⟩ := hq99 trivial
        dsimp only [Option.toList, List.cons_append, List.nil_append, Nat.beq, gI_sI, gI_sL, gI_sA, gI_sM, gL_sI, gL_sL, gL_sA, gL_sM, aI_sI, aI_sL, aI_sA, aI_sM, aL_sI, aL_sL, aL_sA, aL_sM]
        intro p100
        intro p101
        refine ⟨trivial, fun w102 τ102 hq102 => ?_⟩
        obtain ⟨rfl, rfl⟩ := hq102 trivial
        dsimp only [Option.toList, List.cons_append, List.nil_append, Nat.beq, gI_sI, gI_sL, gI_sA, gI_sM, gL_sI, gL_sL, gL_sA, gL_sM, aI_sI, aI_sL, aI_sA, aI_sM, aL_sI, aL_sL, aL_sA, aL_sM]
        refine hB _ _ _ _ _ (fun m103 hm103 => ?_)
        dsimp only [ugo, uwp, ust, uct, rfd, BflowStep, BflowStep_1420, Nat.beq, lv_args, rlk, rs1, rs2, rdl, rky, rcd, rno, rsw, Value.category, List.filter, List.take, List.drop, List.reverse, List.reverseAux, List.cons_append, List.nil_append, Option.toList, Int.toNat, Int.reduceToNat, if_pos, if_neg, reduceIte, ↓reduceIte, Nat.reduceAdd, Nat.reduceEqDiff, Nat.reduceBEq, beq_self_eq_true, Bool.not_true, Bool.not_false, Bool.and_true, Bool.and_false, Bool.true_and, Bool.false_and, gI_sI, gI_sL, gI_sA, gI_sM, gL_sI, gL_sL, gL_sA, gL_sM, aI_sI, aI_sL, aI_sA, aI_sM, aL_sI, aL_sL, aL_sA, aL_sM, oi_1]; try dsimp only
        unfold Qv_flowStep
        try dsimp only
        have es : fsS σ c = ((sI (beS (sM (sA σ 95 (upd (aI σ 95) (((aI σ 20) (c).toNatClampNeg)).toNatClampNeg (gI σ 92))) 96 (vp_updL (aL σ 96) (((aI σ 20) (c).toNatClampNeg)).toNatClampNeg (nowR (sA σ 95 (upd (aI σ 95) (((aI σ 20) (c).toNatClampNeg)).toNatClampNeg (gI σ 92)))))) ((aL σ 98) (((aI σ 20) (c).toNatClampNeg)).toNatClampNeg)) 92 1), (c + 1)) := (fs_e24 (by show (aI σ 19 c.toNatClampNeg).toInt = 24; omega)).trans (rfl)
        refine ⟨(gI σ 112), (gI σ 113), ⟨Or.inl, fun q => q.elim id (fun z => absurd z (fun z => z.elim (fun y => by omega) (fun y => by omega)))⟩, ?_, ?_⟩
        · rw [la_id]
          exact (congrArg Prod.fst es).symm
        · rw [la_id]
          exact congrArg (fun z => some (Value.int z)) (congrArg Prod.snd es).symm
      have c96 : ¬ (aI σ 19 c.toNatClampNeg).toInt = 24 := fun q => h96 ((rfl : (aI σ 19 c.toNatClampNeg).toInt = (aI σ 19 c.toNatClampNeg).toInt).trans q)
      refine ⟨fun h104 => ?_, fun h104 => ?_⟩
      · have c104 : (aI σ 19 c.toNatClampNeg).toInt = 25 := (rfl : (aI σ 19 c.toNatClampNeg).toInt = (aI σ 19 c.toNatClampNeg).toInt).symm.trans h104
        refine hB _ _ _ _ _ (fun m105 hm105 => ?_)
        dsimp only [ugo, uwp, ust, uct, rfd, BflowStep, BflowStep_442, Nat.beq, lv_args, rlk, rs1, rs2, rdl, rky, rcd, rno, rsw, Value.category, List.filter, List.take, List.drop, List.reverse, List.reverseAux, List.cons_append, List.nil_append, Option.toList, Int.toNat, Int.reduceToNat, if_pos, if_neg, reduceIte, ↓reduceIte, Nat.reduceAdd, Nat.reduceEqDiff, Nat.reduceBEq, beq_self_eq_true, Bool.not_true, Bool.not_false, Bool.and_true, Bool.and_false, Bool.true_and, Bool.false_and, gI_sI, gI_sL, gI_sA, gI_sM, gL_sI, gL_sL, gL_sA, gL_sM, aI_sI, aI_sL, aI_sA, aI_sM, aL_sI, aL_sL, aL_sA, aL_sM]; try dsimp only
        intro p106
        refine ⟨fun h107 => ?_, fun h107 => ?_⟩
        · refine hB _ _ _ _ _ (fun m108 hm108 => ?_)
          dsimp only [ugo, uwp, ust, uct, rfd, BflowStep, BflowStep_494, Nat.beq, lv_args, rlk, rs1, rs2, rdl, rky, rcd, rno, rsw, Value.category, List.filter, List.take, List.drop, List.reverse, List.reverseAux, List.cons_append, List.nil_append, Option.toList, Int.toNat, Int.reduceToNat, if_pos, if_neg, reduceIte, ↓reduceIte, Nat.reduceAdd, Nat.reduceEqDiff, Nat.reduceBEq, beq_self_eq_true, Bool.not_true, Bool.not_false, Bool.and_true, Bool.and_false, Bool.true_and, Bool.false_and, gI_sI, gI_sL, gI_sA, gI_sM, gL_sI, gL_sL, gL_sA, gL_sM, aI_sI, aI_sL, aI_sA, aI_sM, aL_sI, aL_sL, aL_sA, aL_sM, oi_1]; try dsimp only
          refine ⟨trivial, fun w109 τ109 hq109 => ?_⟩
          obtain ⟨rfl, rfl⟩ := hq109 trivial
          dsimp only [Option.toList, List.cons_append, List.nil_append, Nat.beq, gI_sI, gI_sL, gI_sA, gI_sM, gL_sI, gL_sL, gL_sA, gL_sM, aI_sI, aI_sL, aI_sA, aI_sM, aL_sI, aL_sL, aL_sA, aL_sM]
          intro p110
          refine ⟨trivial, fun w111 τ111 hq111 => ?_⟩
          obtain ⟨rfl, rfl⟩ := hq111 trivial
          dsimp only [Option.toList, List.cons_append, List.nil_append, Nat.beq, gI_sI, gI_sL, gI_sA, gI_sM, gL_sI, gL_sL, gL_sA, gL_sM, aI_sI, aI_sL, aI_sA, aI_sM, aL_sI, aL_sL, aL_sA, aL_sM]
          refine hB _ _ _ _ _ (fun m112 hm112 => ?_)
          dsimp only [ugo, uwp, ust, uct, rfd, BflowStep, BflowStep_1420, Nat.beq, lv_args, rlk, rs1, rs2, rdl, rky, rcd, rno, rsw, Value.category, List.filter, List.take, List.drop, List.reverse, List.reverseAux, List.cons_append, List.nil_append, Option.toList, Int.toNat, Int.reduceToNat, if_pos, if_neg, reduceIte, ↓reduceIte, Nat.reduceAdd, Nat.reduceEqDiff, Nat.reduceBEq, beq_self_eq_true, Bool.not_true, Bool.not_false, Bool.and_true, Bool.and_false, Bool.true_and, Bool.false_and, gI_sI, gI_sL, gI_sA, gI_sM, gL_sI, gL_sL, gL_sA, gL_sM, aI_sI, aI_sL, aI_sA, aI_sM, aL_sI, aL_sL, aL_sA, aL_sM, oi_1]; try dsimp only
          unfold Qv_flowStep
          try dsimp only
          have es : fsS σ c = ((sI (beS σ ((nowR σ) &&& ((aL σ 98) (((aI σ 20) (c).toNatClampNeg)).toNatClampNeg))) 92 1), (c + 1)) := (fs_e25 (by show (aI σ 19 c.toNatClampNeg).toInt = 25; omega)).trans (by unfold fs_25; rw [if_pos (show ((aI σ 56) (((aI σ 20) (c).toNatClampNeg)).toNatClampNeg) < 0 from h107)])
          refine ⟨(gI σ 112), (gI σ 113), ⟨Or.inl, fun q => q.elim id (fun z => absurd z (fun z => z.elim (fun y => by omega) (fun y => by omega)))⟩, ?_, ?_⟩
          · rw [la_id]
            exact (congrArg Prod.fst es).symm
          · rw [la_id]
            exact congrArg (fun z => some (Value.int z)) (congrArg Prod.snd es).symm
        · refine hB _ _ _ _ _ (fun m113 hm113 => ?_)
          dsimp only [ugo, uwp, ust, uct, rfd, BflowStep, BflowStep_451, Nat.beq, lv_args, rlk, rs1, rs2, rdl, rky, rcd, rno, rsw, Value.category, List.filter, List.take, List.drop, List.reverse, List.reverseAux, List.cons_append, List.nil_append, Option.toList, Int.toNat, Int.reduceToNat, if_pos, if_neg, reduceIte, ↓reduceIte, Nat.reduceAdd, Nat.reduceEqDiff, Nat.reduceBEq, beq_self_eq_true, Bool.not_true, Bool.not_false, Bool.and_true, Bool.and_false, Bool.true_and, Bool.false_and, gI_sI, gI_sL, gI_sA, gI_sM, gL_sI, gL_sL, gL_sA, gL_sM, aI_sI, aI_sL, aI_sA, aI_sM, aL_sI, aL_sL, aL_sA, aL_sM]; try dsimp only
          refine ⟨trivial, fun w114 τ114 hq114 => ?_⟩
          obtain ⟨rfl, rfl⟩ := hq114 trivial
          dsimp only [Option.toList, List.cons_append, List.nil_append, Nat.beq, gI_sI, gI_sL, gI_sA, gI_sM, gL_sI, gL_sL, gL_sA, gL_sM, aI_sI, aI_sL, aI_sA, aI_sM, aL_sI, aL_sL, aL_sA, aL_sM]
          intro p115
          refine ⟨trivial, fun w116 τ116 hq116 => ?_⟩
          obtain ⟨rfl, rfl⟩ := hq116 trivial
          dsimp only [Option.toList, List.cons_append, List.nil_append, Nat.beq, gI_sI, gI_sL, gI_sA, gI_sM, gL_sI, gL_sL, gL_sA, gL_sM, aI_sI, aI_sL, aI_sA, aI_sM, aL_sI, aL_sL, aL_sA, aL_sM]
          refine ⟨fun h117 => ?_, fun h117 => ?_⟩
          · refine hB _ _ _ _ _ (fun m118 hm118 => ?_)
            dsimp only [ugo, uwp, ust, uct, rfd, BflowStep, BflowStep_483, Nat.beq, lv_args, rlk, rs1, rs2, rdl, rky, rcd, rno, rsw, Value.category, List.filter, List.take, List.drop, List.reverse, List.reverseAux, List.cons_append, List.nil_append, Option.toList, Int.toNat, Int.reduceToNat, if_pos, if_neg, reduceIte, ↓reduceIte, Nat.reduceAdd, Nat.reduceEqDiff, Nat.reduceBEq, beq_self_eq_true, Bool.not_true, Bool.not_false, Bool.and_true, Bool.and_false, Bool.true_and, Bool.false_and, gI_sI, gI_sL, gI_sA, gI_sM, gL_sI, gL_sL, gL_sA, gL_sM, aI_sI, aI_sL, aI_sA, aI_sM, aL_sI, aL_sL, aL_sA, aL_sM, oi_1]; try dsimp only
            refine hB _ _ _ _ _ (fun m119 hm119 => ?_)
            dsimp only [ugo, uwp, ust, uct, rfd, BflowStep, BflowStep_488, Nat.beq, lv_args, rlk, rs1, rs2, rdl, rky, rcd, rno, rsw, Value.category, List.filter, List.take, List.drop, List.reverse, List.reverseAux, List.cons_append, List.nil_append, Option.toList, Int.toNat, Int.reduceToNat, if_pos, if_neg, reduceIte, ↓reduceIte, Nat.reduceAdd, Nat.reduceEqDiff, Nat.reduceBEq, beq_self_eq_true, Bool.not_true, Bool.not_false, Bool.and_true, Bool.and_false, Bool.true_and, Bool.false_and, gI_sI, gI_sL, gI_sA, gI_sM, gL_sI, gL_sL, gL_sA, gL_sM, aI_sI, aI_sL, aI_sA, aI_sM, aL_sI, aL_sL, aL_sA, aL_sM]; try dsimp only
            refine hB _ _ _ _ _ (fun m120 hm120 => ?_)
            dsimp only [ugo, uwp, ust, uct, rfd, BflowStep, BflowStep_1420, Nat.beq, lv_args, rlk, rs1, rs2, rdl, rky, rcd, rno, rsw, Value.category, List.filter, List.take, List.drop, List.reverse, List.reverseAux, List.cons_append, List.nil_append, Option.toList, Int.toNat, Int.reduceToNat, if_pos, if_neg, reduceIte, ↓reduceIte, Nat.reduceAdd, Nat.reduceEqDiff, Nat.reduceBEq, beq_self_eq_true, Bool.not_true, Bool.not_false, Bool.and_true, Bool.and_false, Bool.true_and, Bool.false_and, gI_sI, gI_sL, gI_sA, gI_sM, gL_sI, gL_sL, gL_sA, gL_sM, aI_sI, aI_sL, aI_sA, aI_sM, aL_sI, aL_sL, aL_sA, aL_sM, oi_1]; try dsimp only
            unfold Qv_flowStep
            try dsimp only
            have es : fsS σ c = ((sI (beS σ ((nowR σ) &&& ((aL σ 96) (((aI σ 20) (c).toNatClampNeg)).toNatClampNeg))) 92 1), (c + 1)) := (fs_e25 (by show (aI σ 19 c.toNatClampNeg).toInt = 25; omega)).trans (by unfold fs_25; rw [if_neg (show ¬ (((aI σ 56) (((aI σ 20) (c).toNatClampNeg)).toNatClampNeg) < 0) from h107), if_neg (show ¬ ((gI (beS σ ((nowR σ) &&& ((aL σ 96) (((aI σ 20) (c).toNatClampNeg)).toNatClampNeg))) 92) = 0) from h117)])
            refine ⟨(gI σ 112), (gI σ 113), ⟨Or.inl, fun q => q.elim id (fun z => absurd z (fun z => z.elim (fun y => by omega) (fun y => by omega)))⟩, ?_, ?_⟩
            · rw [la_id]
              exact (congrArg Prod.fst es).symm
            · rw [la_id]
              exact congrArg (fun z => some (Value.int z)) (congrArg Prod.snd es).symm
          · refine hB _ _ _ _ _ (fun m121 hm121 => ?_)
            dsimp only [ugo, uwp, ust, uct, rfd, BflowStep, BflowStep_474, Nat.beq, lv_args, rlk, rs1, rs2, rdl, rky, rcd, rno, rsw, Value.category, List.filter, List.take, List.drop, List.reverse, List.reverseAux, List.cons_append, List.nil_append, Option.toList, Int.toNat, Int.reduceToNat, if_pos, if_neg, reduceIte, ↓reduceIte, Nat.reduceAdd, Nat.reduceEqDiff, Nat.reduceBEq, beq_self_eq_true, Bool.not_true, Bool.not_false, Bool.and_true, Bool.and_false, Bool.true_and, Bool.false_and, gI_sI, gI_sL, gI_sA, gI_sM, gL_sI, gL_sL, gL_sA, gL_sM, aI_sI, aI_sL, aI_sA, aI_sM, aL_sI, aL_sL, aL_sA, aL_sM]; try dsimp only
            intro p122
            refine ⟨fun h123 => ?_, fun h123 => ?_⟩
            · refine hB _ _ _ _ _ (fun m124 hm124 => ?_)
              dsimp only [ugo, uwp, ust, uct, rfd, BflowStep, BflowStep_487, Nat.beq, lv_args, rlk, rs1, rs2, rdl, rky, rcd, rno, rsw, Value.category, List.filter, List.take, List.drop, List.reverse, List.reverseAux, List.cons_append, List.nil_append, Option.toList, Int.toNat, Int.reduceToNat, if_pos, if_neg, reduceIte, ↓reduceIte, Nat.reduceAdd, Nat.reduceEqDiff, Nat.reduceBEq, beq_self_eq_true, Bool.not_true, Bool.not_false, Bool.and_true, Bool.and_false, Bool.true_and, Bool.false_and, gI_sI, gI_sL, gI_sA, gI_sM, gL_sI, gL_sL, gL_sA, gL_sM, aI_sI, aI_sL, aI_sA, aI_sM, aL_sI, aL_sL, aL_sA, aL_sM, oi_0]; try dsimp only
              refine hB _ _ _ _ _ (fun m125 hm125 => ?_)
              dsimp only [ugo, uwp, ust, uct, rfd, BflowStep, BflowStep_488, Nat.beq, lv_args, rlk, rs1, rs2, rdl, rky, rcd, rno, rsw, Value.category, List.filter, List.take, List.drop, List.reverse, List.reverseAux, List.cons_append, List.nil_append, Option.toList, Int.toNat, Int.reduceToNat, if_pos, if_neg, reduceIte, ↓reduceIte, Nat.reduceAdd, Nat.reduceEqDiff, Nat.reduceBEq, beq_self_eq_true, Bool.not_true, Bool.not_false, Bool.and_true, Bool.and_false, Bool.true_and, Bool.false_and, gI_sI, gI_sL, gI_sA, gI_sM, gL_sI, gL_sL, gL_sA, gL_sM, aI_sI, aI_sL, aI_sA, aI_sM, aL_sI, aL_sL, aL_sA, aL_sM]; try dsimp only
              refine hB _ _ _ _ _ (fun m126 hm126 => ?_)
              dsimp only [ugo, uwp, ust, uct, rfd, BflowStep, BflowStep_1420, Nat.beq, lv_args, rlk, rs1, rs2, rdl, rky, rcd, rno, rsw, Value.category, List.filter, List.take, List.drop, List.reverse, List.reverseAux, List.cons_append, List.nil_append, Option.toList, Int.toNat, Int.reduceToNat, if_pos, if_neg, reduceIte, ↓reduceIte, Nat.reduceAdd, Nat.reduceEqDiff, Nat.reduceBEq, beq_self_eq_true, Bool.not_true, Bool.not_false, Bool.and_true, Bool.and_false, Bool.true_and, Bool.false_and, gI_sI, gI_sL, gI_sA, gI_sM, gL_sI, gL_sL, gL_sA, gL_sM, aI_sI, aI_sL, aI_sA, aI_sM, aL_sI, aL_sL, aL_sA, aL_sM, oi_1]; try dsimp only
              unfold Qv_flowStep
              try dsimp only
              have es : fsS σ c = ((sI (beS σ ((nowR σ) &&& ((aL σ 96) (((aI σ 20) (c).toNatClampNeg)).toNatClampNeg))) 92 0), (c + 1)) := (fs_e25 (by show (aI σ 19 c.toNatClampNeg).toInt = 25; omega)).trans (by unfold fs_25; rw [if_neg (show ¬ (((aI σ 56) (((aI σ 20) (c).toNatClampNeg)).toNatClampNeg) < 0) from h107), if_pos (show (gI (beS σ ((nowR σ) &&& ((aL σ 96) (((aI σ 20) (c).toNatClampNeg)).toNatClampNeg))) 92) = 0 from h117), if_pos (show ((aI (beS σ ((nowR σ) &&& ((aL σ 96) (((aI σ 20) (c).toNatClampNeg)).toNatClampNeg))) 95) (((aI σ 20) (c).toNatClampNeg)).toNatClampNeg) = 0 from h123)])
              refine ⟨(gI σ 112), (gI σ 113), ⟨Or.inl, fun q => q.elim id (fun z => absurd z (fun z => z.elim (fun y => by omega) (fun y => by omega)))⟩, ?_, ?_⟩
              · rw [la_id]
                exact (congrArg Prod.fst es).symm
              · rw [la_id]
                exact congrArg (fun z => some (Value.int z)) (congrArg Prod.snd es).symm
            · refine hB _ _ _ _ _ (fun m127 hm127 => ?_)
              dsimp only [ugo, uwp, ust, uct, rfd, BflowStep, BflowStep_483, Nat.beq, lv_args, rlk, rs1, rs2, rdl, rky, rcd, rno, rsw, Value.category, List.filter, List.take, List.drop, List.reverse, List.reverseAux, List.cons_append, List.nil_append, Option.toList, Int.toNat, Int.reduceToNat, if_pos, if_neg, reduceIte, ↓reduceIte, Nat.reduceAdd, Nat.reduceEqDiff, Nat.reduceBEq, beq_self_eq_true, Bool.not_true, Bool.not_false, Bool.and_true, Bool.and_false, Bool.true_and, Bool.false_and, gI_sI, gI_sL, gI_sA, gI_sM, gL_sI, gL_sL, gL_sA, gL_sM, aI_sI, aI_sL, aI_sA, aI_sM, aL_sI, aL_sL, aL_sA, aL_sM, oi_1]; try dsimp only
              refine hB _ _ _ _ _ (fun m128 hm128 => ?_)
              dsimp only [ugo, uwp, ust, uct, rfd, BflowStep, BflowStep_488, Nat.beq, lv_args, rlk, rs1, rs2, rdl, rky, rcd, rno, rsw, Value.category, List.filter, List.take, List.drop, List.reverse, List.reverseAux, List.cons_append, List.nil_append, Option.toList, Int.toNat, Int.reduceToNat, if_pos, if_neg, reduceIte, ↓reduceIte, Nat.reduceAdd, Nat.reduceEqDiff, Nat.reduceBEq, beq_self_eq_true, Bool.not_true, Bool.not_false, Bool.and_true, Bool.and_false, Bool.true_and, Bool.false_and, gI_sI, gI_sL, gI_sA, gI_sM, gL_sI, gL_sL, gL_sA, gL_sM, aI_sI, aI_sL, aI_sA, aI_sM, aL_sI, aL_sL, aL_sA, aL_sM]; try dsimp only
              refine hB _ _ _ _ _ (fun m129 hm129 => ?_)
              dsimp only [ugo, uwp, ust, uct, rfd, BflowStep, BflowStep_1420, Nat.beq, lv_args, rlk, rs1, rs2, rdl, rky, rcd, rno, rsw, Value.category, List.filter, List.take, List.drop, List.reverse, List.reverseAux, List.cons_append, List.nil_append, Option.toList, Int.toNat, Int.reduceToNat, if_pos, if_neg, reduceIte, ↓reduceIte, Nat.reduceAdd, Nat.reduceEqDiff, Nat.reduceBEq, beq_self_eq_true, Bool.not_true, Bool.not_false, Bool.and_true, Bool.and_false, Bool.true_and, Bool.false_and, gI_sI, gI_sL, gI_sA, gI_sM, gL_sI, gL_sL, gL_sA, gL_sM, aI_sI, aI_sL, aI_sA, aI_sM, aL_sI, aL_sL, aL_sA, aL_sM, oi_1]; try dsimp only
              unfold Qv_flowStep
              try dsimp only
              have es : fsS σ c = ((sI (beS σ ((nowR σ) &&& ((aL σ 96) (((aI σ 20) (c).toNatClampNeg)).toNatClampNeg))) 92 1), (c + 1)) := (fs_e25 (by show (aI σ 19 c.toNatClampNeg).toInt = 25; omega)).trans (by unfold fs_25; rw [if_neg (show ¬ (((aI σ 56) (((aI σ 20) (c).toNatClampNeg)).toNatClampNeg) < 0) from h107), if_pos (show (gI (beS σ ((nowR σ) &&& ((aL σ 96) (((aI σ 20) (c).toNatClampNeg)).toNatClampNeg))) 92) = 0 from h117), if_neg (show ¬ (((aI (beS σ ((nowR σ) &&& ((aL σ 96) (((aI σ 20) (c).toNatClampNeg)).toNatClampNeg))) 95) (((aI σ 20) (c).toNatClampNeg)).toNatClampNeg) = 0) from h123)])
              refine ⟨(gI σ 112), (gI σ 113), ⟨Or.inl, fun q => q.elim id (fun z => absurd z (fun z => z.elim (fun y => by omega) (fun y => by omega)))⟩, ?_, ?_⟩
              · rw [la_id]
                exact (congrArg Prod.fst es).symm
              · rw [la_id]
                exact congrArg (fun z => some (Value.int z)) (congrArg Prod.snd es).symm
      have c104 : ¬ (aI σ 19 c.toNatClampNeg).toInt = 25 := fun q => h104 ((rfl : (aI σ 19 c.toNatClampNeg).toInt = (aI σ 19 c.toNatClampNeg).toInt).trans q)
      refine ⟨fun h130 => ?_, fun h130 => ?_⟩
      · have c130 : (aI σ 19 c.toNatClampNeg).toInt = 26 := (rfl : (aI σ 19 c.toNatClampNeg).toInt = (aI σ 19 c.toNatClampNeg).toInt).symm.trans h130
        refine hB _ _ _ _ _ (fun m131 hm131 => ?_)
        dsimp only [ugo, uwp, ust, uct, rfd, BflowStep, BflowStep_1420, Nat.beq, lv_args, rlk, rs1, rs2, rdl, rky, rcd, rno, rsw, Value.category, List.filter, List.take, List.drop, List.reverse, List.reverseAux, List.cons_append, List.nil_append, Option.toList, Int.toNat, Int.reduceToNat, if_pos, if_neg, reduceIte, ↓reduceIte, Nat.reduceAdd, Nat.reduceEqDiff, Nat.reduceBEq, beq_self_eq_true, Bool.not_true, Bool.not_false, Bool.and_true, Bool.and_false, Bool.true_and, Bool.false_and, gI_sI, gI_sL, gI_sA, gI_sM, gL_sI, gL_sL, gL_sA, gL_sM, aI_sI, aI_sL, aI_sA, aI_sM, aL_sI, aL_sL, aL_sA, aL_sM, oi_1]; try dsimp only
        unfold Qv_flowStep
        try dsimp only
        have es : fsS σ c = (σ, (c + 1)) := fs_d (by show ¬ ((20 ≤ (aI σ 19 c.toNatClampNeg).toInt ∧ (aI σ 19 c.toNatClampNeg).toInt ≤ 25) ∨ (aI σ 19 c.toNatClampNeg).toInt = 27 ∨ (aI σ 19 c.toNatClampNeg).toInt = 28 ∨ (aI σ 19 c.toNatClampNeg).toInt = 30 ∨ (aI σ 19 c.toNatClampNeg).toInt = 31 ∨ (aI σ 19 c.toNatClampNeg).toInt = 33 ∨ (aI σ 19 c.toNatClampNeg).toInt = 35 ∨ (aI σ 19 c.toNatClampNeg).toInt = 36 ∨ (aI σ 19 c.toNatClampNeg).toInt = 37 ∨ (aI σ 19 c.toNatClampNeg).toInt = 38 ∨ (aI σ 19 c.toNatClampNeg).toInt = 39 ∨ (aI σ 19 c.toNatClampNeg).toInt = 40 ∨ (aI σ 19 c.toNatClampNeg).toInt = 42 ∨ (aI σ 19 c.toNatClampNeg).toInt = 45 ∨ (aI σ 19 c.toNatClampNeg).toInt = 46 ∨ (aI σ 19 c.toNatClampNeg).toInt = 47 ∨ (aI σ 19 c.toNatClampNeg).toInt = 48 ∨ (aI σ 19 c.toNatClampNeg).toInt = 49 ∨ (aI σ 19 c.toNatClampNeg).toInt = 50 ∨ (aI σ 19 c.toNatClampNeg).toInt = 51 ∨ (aI σ 19 c.toNatClampNeg).toInt = 52 ∨ (aI σ 19 c.toNatClampNeg).toInt = 53); omega)
        refine ⟨(gI σ 112), (gI σ 113), ⟨Or.inl, fun q => q.elim id (fun z => absurd z (fun z => z.elim (fun y => by omega) (fun y => by omega)))⟩, ?_, ?_⟩
        · rw [la_id]
          exact (congrArg Prod.fst es).symm
        · rw [la_id]
          exact congrArg (fun z => some (Value.int z)) (congrArg Prod.snd es).symm
      have c130 : ¬ (aI σ 19 c.toNatClampNeg).toInt = 26 := fun q => h130 ((rfl : (aI σ 19 c.toNatClampNeg).toInt = (aI σ 19 c.toNatClampNeg).toInt).trans q)
      refine ⟨fun h132 => ?_, fun h132 => ?_⟩
      · have c132 : (aI σ 19 c.toNatClampNeg).toInt = 27 := (rfl : (aI σ 19 c.toNatClampNeg).toInt = (aI σ 19 c.toNatClampNeg).toInt).symm.trans h132
        refine hB _ _ _ _ _ (fun m133 hm133 => ?_)
        dsimp only [ugo, uwp, ust, uct, rfd, BflowStep, BflowStep_517, Nat.beq, lv_args, rlk, rs1, rs2, rdl, rky, rcd, rno, rsw, Value.category, List.filter, List.take, List.drop, List.reverse, List.reverseAux, List.cons_append, List.nil_append, Option.toList, Int.toNat, Int.reduceToNat, if_pos, if_neg, reduceIte, ↓reduceIte, Nat.reduceAdd, Nat.reduceEqDiff, Nat.reduceBEq, beq_self_eq_true, Bool.not_true, Bool.not_false, Bool.and_true, Bool.and_false, Bool.true_and, Bool.false_and, gI_sI, gI_sL, gI_sA, gI_sM, gL_sI, gL_sL, gL_sA, gL_sM, aI_sI, aI_sL, aI_sA, aI_sM, aL_sI, aL_sL, aL_sA, aL_sM]; try dsimp only
        intro p134
        intro p135
        refine ⟨trivial, fun w136 τ136 hq136 => ?_⟩
        obtain ⟨rfl, rfl⟩ := hq136 trivial
        dsimp only [Option.toList, List.cons_append, List.nil_append, Nat.beq, gI_sI, gI_sL, gI_sA, gI_sM, gL_sI, gL_sL, gL_sA, gL_sM, aI_sI, aI_sL, aI_sA, aI_sM, aL_sI, aL_sL, aL_sA, aL_sM]
        refine ⟨fun h137 => ?_, fun h137 => ?_⟩
        · refine hB _ _ _ _ _ (fun m138 hm138 => ?_)
          dsimp only [ugo, uwp, ust, uct, rfd, BflowStep, BflowStep_553, Nat.beq, lv_args, rlk, rs1, rs2, rdl, rky, rcd, rno, rsw, Value.category, List.filter, List.take, List.drop, List.reverse, List.reverseAux, List.cons_append, List.nil_append, Option.toList, Int.toNat, Int.reduceToNat, if_pos, if_neg, reduceIte, ↓reduceIte, Nat.reduceAdd, Nat.reduceEqDiff, Nat.reduceBEq, beq_self_eq_true, Bool.not_true, Bool.not_false, Bool.and_true, Bool.and_false, Bool.true_and, Bool.false_and, gI_sI, gI_sL, gI_sA, gI_sM, gL_sI, gL_sL, gL_sA, gL_sM, aI_sI, aI_sL, aI_sA, aI_sM, aL_sI, aL_sL, aL_sA, aL_sM, oi_0]; try dsimp only
          refine hB _ _ _ _ _ (fun m139 hm139 => ?_)
          dsimp only [ugo, uwp, ust, uct, rfd, BflowStep, BflowStep_554, Nat.beq, lv_args, rlk, rs1, rs2, rdl, rky, rcd, rno, rsw, Value.category, List.filter, List.take, List.drop, List.reverse, List.reverseAux, List.cons_append, List.nil_append, Option.toList, Int.toNat, Int.reduceToNat, if_pos, if_neg, reduceIte, ↓reduceIte, Nat.reduceAdd, Nat.reduceEqDiff, Nat.reduceBEq, beq_self_eq_true, Bool.not_true, Bool.not_false, Bool.and_true, Bool.and_false, Bool.true_and, Bool.false_and, gI_sI, gI_sL, gI_sA, gI_sM, gL_sI, gL_sL, gL_sA, gL_sM, aI_sI, aI_sL, aI_sA, aI_sM, aL_sI, aL_sL, aL_sA, aL_sM]; try dsimp only
          refine hB _ _ _ _ _ (fun m140 hm140 => ?_)
          dsimp only [ugo, uwp, ust, uct, rfd, BflowStep, BflowStep_1420, Nat.beq, lv_args, rlk, rs1, rs2, rdl, rky, rcd, rno, rsw, Value.category, List.filter, List.take, List.drop, List.reverse, List.reverseAux, List.cons_append, List.nil_append, Option.toList, Int.toNat, Int.reduceToNat, if_pos, if_neg, reduceIte, ↓reduceIte, Nat.reduceAdd, Nat.reduceEqDiff, Nat.reduceBEq, beq_self_eq_true, Bool.not_true, Bool.not_false, Bool.and_true, Bool.and_false, Bool.true_and, Bool.false_and, gI_sI, gI_sL, gI_sA, gI_sM, gL_sI, gL_sL, gL_sA, gL_sM, aI_sI, aI_sL, aI_sA, aI_sM, aL_sI, aL_sL, aL_sA, aL_sM, oi_1]; try dsimp only
          unfold Qv_flowStep
          try dsimp only
          have es : fsS σ c = ((sI (beS (sA (sM σ 98 (vp_updL (aL σ 98) (((aI σ 20) (c).toNatClampNeg)).toNatClampNeg (gL σ 94))) 97 (upd (aI σ 97) (((aI σ 20) (c).toNatClampNeg)).toNatClampNeg (alR σ c))) (gL σ 93)) 92 0), (c + 1)) := (fs_e27 (by show (aI σ 19 c.toNatClampNeg).toInt = 27; omega)).trans (by unfold fs_27; rw [if_neg (show ¬ ((neR σ c) = 0) from h137)])
          refine ⟨(gI σ 112), (gI σ 113), ⟨Or.inl, fun q => q.elim id (fun z => absurd z (fun z => z.elim (fun y => by omega) (fun y => by omega)))⟩, ?_, ?_⟩
          · rw [la_id]
            exact (congrArg Prod.fst es).symm
          · rw [la_id]
            exact congrArg (fun z => some (Value.int z)) (congrArg Prod.snd es).symm
        · refine hB _ _ _ _ _ (fun m141 hm141 => ?_)
          dsimp only [ugo, uwp, ust, uct, rfd, BflowStep, BflowStep_549, Nat.beq, lv_args, rlk, rs1, rs2, rdl, rky, rcd, rno, rsw, Value.category, List.filter, List.take, List.drop, List.reverse, List.reverseAux, List.cons_append, List.nil_append, Option.toList, Int.toNat, Int.reduceToNat, if_pos, if_neg, reduceIte, ↓reduceIte, Nat.reduceAdd, Nat.reduceEqDiff, Nat.reduceBEq, beq_self_eq_true, Bool.not_true, Bool.not_false, Bool.and_true, Bool.and_false, Bool.true_and, Bool.false_and, gI_sI, gI_sL, gI_sA, gI_sM, gL_sI, gL_sL, gL_sA, gL_sM, aI_sI, aI_sL, aI_sA, aI_sM, aL_sI, aL_sL, aL_sA, aL_sM, oi_1]; try dsimp only
          refine hB _ _ _ _ _ (fun m142 hm142 => ?_)
          dsimp only [ugo, uwp, ust, uct, rfd, BflowStep, BflowStep_554, Nat.beq, lv_args, rlk, rs1, rs2, rdl, rky, rcd, rno, rsw, Value.category, List.filter, List.take, List.drop, List.reverse, List.reverseAux, List.cons_append, List.nil_append, Option.toList, Int.toNat, Int.reduceToNat, if_pos, if_neg, reduceIte, ↓reduceIte, Nat.reduceAdd, Nat.reduceEqDiff, Nat.reduceBEq, beq_self_eq_true, Bool.not_true, Bool.not_false, Bool.and_true, Bool.and_false, Bool.true_and, Bool.false_and, gI_sI, gI_sL, gI_sA, gI_sM, gL_sI, gL_sL, gL_sA, gL_sM, aI_sI, aI_sL, aI_sA, aI_sM, aL_sI, aL_sL, aL_sA, aL_sM]; try dsimp only
          refine hB _ _ _ _ _ (fun m143 hm143 => ?_)
          dsimp only [ugo, uwp, ust, uct, rfd, BflowStep, BflowStep_1420, Nat.beq, lv_args, rlk, rs1, rs2, rdl, rky, rcd, rno, rsw, Value.category, List.filter, List.take, List.drop, List.reverse, List.reverseAux, List.cons_append, List.nil_append, Option.toList, Int.toNat, Int.reduceToNat, if_pos, if_neg, reduceIte, ↓reduceIte, Nat.reduceAdd, Nat.reduceEqDiff, Nat.reduceBEq, beq_self_eq_true, Bool.not_true, Bool.not_false, Bool.and_true, Bool.and_false, Bool.true_and, Bool.false_and, gI_sI, gI_sL, gI_sA, gI_sM, gL_sI, gL_sL, gL_sA, gL_sM, aI_sI, aI_sL, aI_sA, aI_sM, aL_sI, aL_sL, aL_sA, aL_sM, oi_1]; try dsimp only
          unfold Qv_flowStep
          try dsimp only
          have es : fsS σ c = ((sI (beS (sA (sM σ 98 (vp_updL (aL σ 98) (((aI σ 20) (c).toNatClampNeg)).toNatClampNeg (gL σ 94))) 97 (upd (aI σ 97) (((aI σ 20) (c).toNatClampNeg)).toNatClampNeg (alR σ c))) (gL σ 93)) 92 1), (c + 1)) := (fs_e27 (by show (aI σ 19 c.toNatClampNeg).toInt = 27; omega)).trans (by unfold fs_27; rw [if_pos (show (neR σ c) = 0 from h137)])
          refine ⟨(gI σ 112), (gI σ 113), ⟨Or.inl, fun q => q.elim id (fun z => absurd z (fun z => z.elim (fun y => by omega) (fun y => by omega)))⟩, ?_, ?_⟩
          · rw [la_id]
            exact (congrArg Prod.fst es).symm
          · rw [la_id]
            exact congrArg (fun z => some (Value.int z)) (congrArg Prod.snd es).symm
      have c132 : ¬ (aI σ 19 c.toNatClampNeg).toInt = 27 := fun q => h132 ((rfl : (aI σ 19 c.toNatClampNeg).toInt = (aI σ 19 c.toNatClampNeg).toInt).trans q)
      refine ⟨fun h144 => ?_, fun h144 => ?_⟩
      · have c144 : (aI σ 19 c.toNatClampNeg).toInt = 28 := (rfl : (aI σ 19 c.toNatClampNeg).toInt = (aI σ 19 c.toNatClampNeg).toInt).symm.trans h144
        refine hB _ _ _ _ _ (fun m145 hm145 => ?_)
        dsimp only [ugo, uwp, ust, uct, rfd, BflowStep, BflowStep_560, Nat.beq, lv_args, rlk, rs1, rs2, rdl, rky, rcd, rno, rsw, Value.category, List.filter, List.take, List.drop, List.reverse, List.reverseAux, List.cons_append, List.nil_append, Option.toList, Int.toNat, Int.reduceToNat, if_pos, if_neg, reduceIte, ↓reduceIte, Nat.reduceAdd, Nat.reduceEqDiff, Nat.reduceBEq, beq_self_eq_true, Bool.not_true, Bool.not_false, Bool.and_true, Bool.and_false, Bool.true_and, Bool.false_and, gI_sI, gI_sL, gI_sA, gI_sM, gL_sI, gL_sL, gL_sA, gL_sM, aI_sI, aI_sL, aI_sA, aI_sM, aL_sI, aL_sL, aL_sA, aL_sM, oi_0, oi_1]; try dsimp only
        refine ⟨trivial, fun w146 τ146 hq146 => ?_⟩
        obtain ⟨rfl, _, rfl, rfl⟩ := hq146 trivial
        dsimp only [Option.toList, List.cons_append, List.nil_append, Nat.beq, gI_sI, gI_sL, gI_sA, gI_sM, gL_sI, gL_sL, gL_sA, gL_sM, aI_sI, aI_sL, aI_sA, aI_sM, aL_sI, aL_sL, aL_sA, aL_sM]
        intro p147
        refine ⟨trivial, fun w148 τ148 hq148 => ?_⟩
        obtain ⟨rfl, _, rfl, rfl⟩ := hq148 trivial
        dsimp only [Option.toList, List.cons_append, List.nil_append, Nat.beq, gI_sI, gI_sL, gI_sA, gI_sM, gL_sI, gL_sL, gL_sA, gL_sM, aI_sI, aI_sL, aI_sA, aI_sM, aL_sI, aL_sL, aL_sA, aL_sM]
        refine ⟨trivial, fun w149 τ149 hq149 => ?_⟩
        obtain ⟨rfl, rfl⟩ := hq149 trivial
        dsimp only [Option.toList, List.cons_append, List.nil_append, Nat.beq, gI_sI, gI_sL, gI_sA, gI_sM, gL_sI, gL_sL, gL_sA, gL_sM, aI_sI, aI_sL, aI_sA, aI_sM, aL_sI, aL_sL, aL_sA, aL_sM]
        intro p150
        refine ⟨fun h151 => ?_, fun h151 => ?_⟩
        · refine hB _ _ _ _ _ (fun m152 hm152 => ?_)
          dsimp only [ugo, uwp, ust, uct, rfd, BflowStep, BflowStep_602, Nat.beq, lv_args, rlk, rs1, rs2, rdl, rky, rcd, rno, rsw, Value.category, List.filter, List.take, List.drop, List.reverse, List.reverseAux, List.cons_append, List.nil_append, Option.toList, Int.toNat, Int.reduceToNat, if_pos, if_neg, reduceIte, ↓reduceIte, Nat.reduceAdd, Nat.reduceEqDiff, Nat.reduceBEq, beq_self_eq_true, Bool.not_true, Bool.not_false, Bool.and_true, Bool.and_false, Bool.true_and, Bool.false_and, gI_sI, gI_sL, gI_sA, gI_sM, gL_sI, gL_sL, gL_sA, gL_sM, aI_sI, aI_sL, aI_sA, aI_sM, aL_sI, aL_sL, aL_sA, aL_sM, oi_1]; try dsimp only
          refine hB _ _ _ _ _ (fun m153 hm153 => ?_)
          dsimp only [ugo, uwp, ust, uct, rfd, BflowStep, BflowStep_607, Nat.beq, lv_args, rlk, rs1, rs2, rdl, rky, rcd, rno, rsw, Value.category, List.filter, List.take, List.drop, List.reverse, List.reverseAux, List.cons_append, List.nil_append, Option.toList, Int.toNat, Int.reduceToNat, if_pos, if_neg, reduceIte, ↓reduceIte, Nat.reduceAdd, Nat.reduceEqDiff, Nat.reduceBEq, beq_self_eq_true, Bool.not_true, Bool.not_false, Bool.and_true, Bool.and_false, Bool.true_and, Bool.false_and, gI_sI, gI_sL, gI_sA, gI_sM, gL_sI, gL_sL, gL_sA, gL_sM, aI_sI, aI_sL, aI_sA, aI_sM, aL_sI, aL_sL, aL_sA, aL_sM]; try dsimp only
          refine hB _ _ _ _ _ (fun m154 hm154 => ?_)
          dsimp only [ugo, uwp, ust, uct, rfd, BflowStep, BflowStep_1420, Nat.beq, lv_args, rlk, rs1, rs2, rdl, rky, rcd, rno, rsw, Value.category, List.filter, List.take, List.drop, List.reverse, List.reverseAux, List.cons_append, List.nil_append, Option.toList, Int.toNat, Int.reduceToNat, if_pos, if_neg, reduceIte, ↓reduceIte, Nat.reduceAdd, Nat.reduceEqDiff, Nat.reduceBEq, beq_self_eq_true, Bool.not_true, Bool.not_false, Bool.and_true, Bool.and_false, Bool.true_and, Bool.false_and, gI_sI, gI_sL, gI_sA, gI_sM, gL_sI, gL_sL, gL_sA, gL_sM, aI_sI, aI_sL, aI_sA, aI_sM, aL_sI, aL_sL, aL_sA, aL_sM, oi_1]; try dsimp only
          unfold Qv_flowStep
          try dsimp only
          have es : fsS σ c = ((sI (beS (coS (coS σ ((aI σ 20) (c).toNatClampNeg) 1 (gI σ 103).toInt.toNat) ((aI σ 20) (c).toNatClampNeg) 0 (gI (coS σ ((aI σ 20) (c).toNatClampNeg) 1 (gI σ 103).toInt.toNat) 103).toInt.toNat) (((aL (coS σ ((aI σ 20) (c).toNatClampNeg) 1 (gI σ 103).toInt.toNat) 98) (((aI σ 20) (c).toNatClampNeg)).toNatClampNeg) &&& (coF (coS σ ((aI σ 20) (c).toNatClampNeg) 1 (gI σ 103).toInt.toNat) ((aI σ 20) (c).toNatClampNeg) 0 (gI (coS σ ((aI σ 20) (c).toNatClampNeg) 1 (gI σ 103).toInt.toNat) 103).toInt.toNat).1)) 92 1), (c + 1)) := (fs_e28 (by show (aI σ 19 c.toNatClampNeg).toInt = 28; omega)).trans (by unfold fs_28; rw [if_pos (show ((aI (beS (coS (coS σ ((aI σ 20) (c).toNatClampNeg) 1 (gI σ 103).toInt.toNat) ((aI σ 20) (c).toNatClampNeg) 0 (gI (coS σ ((aI σ 20) (c).toNatClampNeg) 1 (gI σ 103).toInt.toNat) 103).toInt.toNat) (((aL (coS σ ((aI σ 20) (c).toNatClampNeg) 1 (gI σ 103).toInt.toNat) 98) (((aI σ 20) (c).toNatClampNeg)).toNatClampNeg) &&& (coF (coS σ ((aI σ 20) (c).toNatClampNeg) 1 (gI σ 103).toInt.toNat) ((aI σ 20) (c).toNatClampNeg) 0 (gI (coS σ ((aI σ 20) (c).toNatClampNeg) 1 (gI σ 103).toInt.toNat) 103).toInt.toNat).1)) 97) (((aI σ 20) (c).toNatClampNeg)).toNatClampNeg) = 0 from h151)])
          refine ⟨(gI σ 112), (gI σ 113), ⟨Or.inl, fun q => q.elim id (fun z => absurd z (fun z => z.elim (fun y => by omega) (fun y => by omega)))⟩, ?_, ?_⟩
          · rw [la_id]
            exact (congrArg Prod.fst es).symm
          · rw [la_id]
            exact congrArg (fun z => some (Value.int z)) (congrArg Prod.snd es).symm
        · refine hB _ _ _ _ _ (fun m155 hm155 => ?_)
          dsimp only [ugo, uwp, ust, uct, rfd, BflowStep, BflowStep_595, Nat.beq, lv_args, rlk, rs1, rs2, rdl, rky, rcd, rno, rsw, Value.category, List.filter, List.take, List.drop, List.reverse, List.reverseAux, List.cons_append, List.nil_append, Option.toList, Int.toNat, Int.reduceToNat, if_pos, if_neg, reduceIte, ↓reduceIte, Nat.reduceAdd, Nat.reduceEqDiff, Nat.reduceBEq, beq_self_eq_true, Bool.not_true, Bool.not_false, Bool.and_true, Bool.and_false, Bool.true_and, Bool.false_and, gI_sI, gI_sL, gI_sA, gI_sM, gL_sI, gL_sL, gL_sA, gL_sM, aI_sI, aI_sL, aI_sA, aI_sM, aL_sI, aL_sL, aL_sA, aL_sM]; try dsimp only
          refine ⟨fun h156 => ?_, fun h156 => ?_⟩
          · refine hB _ _ _ _ _ (fun m157 hm157 => ?_)
            dsimp only [ugo, uwp, ust, uct, rfd, BflowStep, BflowStep_606, Nat.beq, lv_args, rlk, rs1, rs2, rdl, rky, rcd, rno, rsw, Value.category, List.filter, List.take, List.drop, List.reverse, List.reverseAux, List.cons_append, List.nil_append, Option.toList, Int.toNat, Int.reduceToNat, if_pos, if_neg, reduceIte, ↓reduceIte, Nat.reduceAdd, Nat.reduceEqDiff, Nat.reduceBEq, beq_self_eq_true, Bool.not_true, Bool.not_false, Bool.and_true, Bool.and_false, Bool.true_and, Bool.false_and, gI_sI, gI_sL, gI_sA, gI_sM, gL_sI, gL_sL, gL_sA, gL_sM, aI_sI, aI_sL, aI_sA, aI_sM, aL_sI, aL_sL, aL_sA, aL_sM, oi_0]; try dsimp only
            refine hB _ _ _ _ _ (fun m158 hm158 => ?_)
            dsimp only [ugo, uwp, ust, uct, rfd, BflowStep, BflowStep_607, Nat.beq, lv_args, rlk, rs1, rs2, rdl, rky, rcd, rno, rsw, Value.category, List.filter, List.take, List.drop, List.reverse, List.reverseAux, List.cons_append, List.nil_append, Option.toList, Int.toNat, Int.reduceToNat, if_pos, if_neg, reduceIte, ↓reduceIte, Nat.reduceAdd, Nat.reduceEqDiff, Nat.reduceBEq, beq_self_eq_true, Bool.not_true, Bool.not_false, Bool.and_true, Bool.and_false, Bool.true_and, Bool.false_and, gI_sI, gI_sL, gI_sA, gI_sM, gL_sI, gL_sL, gL_sA, gL_sM, aI_sI, aI_sL, aI_sA, aI_sM, aL_sI, aL_sL, aL_sA, aL_sM]; try dsimp only
            refine hB _ _ _ _ _ (fun m159 hm159 => ?_)
            dsimp only [ugo, uwp, ust, uct, rfd, BflowStep, BflowStep_1420, Nat.beq, lv_args, rlk, rs1, rs2, rdl, rky, rcd, rno, rsw, Value.category, List.filter, List.take, List.drop, List.reverse, List.reverseAux, List.cons_append, List.nil_append, Option.toList, Int.toNat, Int.reduceToNat, if_pos, if_neg, reduceIte, ↓reduceIte, Nat.reduceAdd, Nat.reduceEqDiff, Nat.reduceBEq, beq_self_eq_true, Bool.not_true, Bool.not_false, Bool.and_true, Bool.and_false, Bool.true_and, Bool.false_and, gI_sI, gI_sL, gI_sA, gI_sM, gL_sI, gL_sL, gL_sA, gL_sM, aI_sI, aI_sL, aI_sA, aI_sM, aL_sI, aL_sL, aL_sA, aL_sM, oi_1]; try dsimp only
            unfold Qv_flowStep
            try dsimp only
            have es : fsS σ c = ((sI (beS (coS (coS σ ((aI σ 20) (c).toNatClampNeg) 1 (gI σ 103).toInt.toNat) ((aI σ 20) (c).toNatClampNeg) 0 (gI (coS σ ((aI σ 20) (c).toNatClampNeg) 1 (gI σ 103).toInt.toNat) 103).toInt.toNat) (((aL (coS σ ((aI σ 20) (c).toNatClampNeg) 1 (gI σ 103).toInt.toNat) 98) (((aI σ 20) (c).toNatClampNeg)).toNatClampNeg) &&& (coF (coS σ ((aI σ 20) (c).toNatClampNeg) 1 (gI σ 103).toInt.toNat) ((aI σ 20) (c).toNatClampNeg) 0 (gI (coS σ ((aI σ 20) (c).toNatClampNeg) 1 (gI σ 103).toInt.toNat) 103).toInt.toNat).1)) 92 0), (c + 1)) := (fs_e28 (by show (aI σ 19 c.toNatClampNeg).toInt = 28; omega)).trans (by unfold fs_28; rw [if_neg (show ¬ (((aI (beS (coS (coS σ ((aI σ 20) (c).toNatClampNeg) 1 (gI σ 103).toInt.toNat) ((aI σ 20) (c).toNatClampNeg) 0 (gI (coS σ ((aI σ 20) (c).toNatClampNeg) 1 (gI σ 103).toInt.toNat) 103).toInt.toNat) (((aL (coS σ ((aI σ 20) (c).toNatClampNeg) 1 (gI σ 103).toInt.toNat) 98) (((aI σ 20) (c).toNatClampNeg)).toNatClampNeg) &&& (coF (coS σ ((aI σ 20) (c).toNatClampNeg) 1 (gI σ 103).toInt.toNat) ((aI σ 20) (c).toNatClampNeg) 0 (gI (coS σ ((aI σ 20) (c).toNatClampNeg) 1 (gI σ 103).toInt.toNat) 103).toInt.toNat).1)) 97) (((aI σ 20) (c).toNatClampNeg)).toNatClampNeg) = 0) from h151), if_pos (show (gI (beS (coS (coS σ ((aI σ 20) (c).toNatClampNeg) 1 (gI σ 103).toInt.toNat) ((aI σ 20) (c).toNatClampNeg) 0 (gI (coS σ ((aI σ 20) (c).toNatClampNeg) 1 (gI σ 103).toInt.toNat) 103).toInt.toNat) (((aL (coS σ ((aI σ 20) (c).toNatClampNeg) 1 (gI σ 103).toInt.toNat) 98) (((aI σ 20) (c).toNatClampNeg)).toNatClampNeg) &&& (coF (coS σ ((aI σ 20) (c).toNatClampNeg) 1 (gI σ 103).toInt.toNat) ((aI σ 20) (c).toNatClampNeg) 0 (gI (coS σ ((aI σ 20) (c).toNatClampNeg) 1 (gI σ 103).toInt.toNat) 103).toInt.toNat).1)) 116) = 0 from h156)])
            refine ⟨(gI σ 112), (gI σ 113), ⟨Or.inl, fun q => q.elim id (fun z => absurd z (fun z => z.elim (fun y => by omega) (fun y => by omega)))⟩, ?_, ?_⟩
            · rw [la_id]
              exact (congrArg Prod.fst es).symm
            · rw [la_id]
              exact congrArg (fun z => some (Value.int z)) (congrArg Prod.snd es).symm
          · refine hB _ _ _ _ _ (fun m160 hm160 => ?_)
            dsimp only [ugo, uwp, ust, uct, rfd, BflowStep, BflowStep_602, Nat.beq, lv_args, rlk, rs1, rs2, rdl, rky, rcd, rno, rsw, Value.category, List.filter, List.take, List.drop, List.reverse, List.reverseAux, List.cons_append, List.nil_append, Option.toList, Int.toNat, Int.reduceToNat, if_pos, if_neg, reduceIte, ↓reduceIte, Nat.reduceAdd, Nat.reduceEqDiff, Nat.reduceBEq, beq_self_eq_true, Bool.not_true, Bool.not_false, Bool.and_true, Bool.and_false, Bool.true_and, Bool.false_and, gI_sI, gI_sL, gI_sA, gI_sM, gL_sI, gL_sL, gL_sA, gL_sM, aI_sI, aI_sL, aI_sA, aI_sM, aL_sI, aL_sL, aL_sA, aL_sM, oi_1]; try dsimp only
            refine hB _ _ _ _ _ (fun m161 hm161 => ?_)
            dsimp only [ugo, uwp, ust, uct, rfd, BflowStep, BflowStep_607, Nat.beq, lv_args, rlk, rs1, rs2, rdl, rky, rcd, rno, rsw, Value.category, List.filter, List.take, List.drop, List.reverse, List.reverseAux, List.cons_append, List.nil_append, Option.toList, Int.toNat, Int.reduceToNat, if_pos, if_neg, reduceIte, ↓reduceIte, Nat.reduceAdd, Nat.reduceEqDiff, Nat.reduceBEq, beq_self_eq_true, Bool.not_true, Bool.not_false, Bool.and_true, Bool.and_false, Bool.true_and, Bool.false_and, gI_sI, gI_sL, gI_sA, gI_sM, gL_sI, gL_sL, gL_sA, gL_sM, aI_sI, aI_sL, aI_sA, aI_sM, aL_sI, aL_sL, aL_sA, aL_sM]; try dsimp only
            refine hB _ _ _ _ _ (fun m162 hm162 => ?_)
            dsimp only [ugo, uwp, ust, uct, rfd, BflowStep, BflowStep_1420, Nat.beq, lv_args, rlk, rs1, rs2, rdl, rky, rcd, rno, rsw, Value.category, List.filter, List.take, List.drop, List.reverse, List.reverseAux, List.cons_append, List.nil_append, Option.toList, Int.toNat, Int.reduceToNat, if_pos, if_neg, reduceIte, ↓reduceIte, Nat.reduceAdd, Nat.reduceEqDiff, Nat.reduceBEq, beq_self_eq_true, Bool.not_true, Bool.not_false, Bool.and_true, Bool.and_false, Bool.true_and, Bool.false_and, gI_sI, gI_sL, gI_sA, gI_sM, gL_sI, gL_sL, gL_sA, gL_sM, aI_sI, aI_sL, aI_sA, aI_sM, aL_sI, aL_sL, aL_sA, aL_sM, oi_1]; try dsimp only
            unfold Qv_flowStep
            try dsimp only
            have es : fsS σ c = ((sI (beS (coS (coS σ ((aI σ 20) (c).toNatClampNeg) 1 (gI σ 103).toInt.toNat) ((aI σ 20) (c).toNatClampNeg) 0 (gI (coS σ ((aI σ 20) (c).toNatClampNeg) 1 (gI σ 103).toInt.toNat) 103).toInt.toNat) (((aL (coS σ ((aI σ 20) (c).toNatClampNeg) 1 (gI σ 103).toInt.toNat) 98) (((aI σ 20) (c).toNatClampNeg)).toNatClampNeg) &&& (coF (coS σ ((aI σ 20) (c).toNatClampNeg) 1 (gI σ 103).toInt.toNat) ((aI σ 20) (c).toNatClampNeg) 0 (gI (coS σ ((aI σ 20) (c).toNatClampNeg) 1 (gI σ 103).toInt.toNat) 103).toInt.toNat).1)) 92 1), (c + 1)) := (fs_e28 (by show (aI σ 19 c.toNatClampNeg).toInt = 28; omega)).trans (by unfold fs_28; rw [if_neg (show ¬ (((aI (beS (coS (coS σ ((aI σ 20) (c).toNatClampNeg) 1 (gI σ 103).toInt.toNat) ((aI σ 20) (c).toNatClampNeg) 0 (gI (coS σ ((aI σ 20) (c).toNatClampNeg) 1 (gI σ 103).toInt.toNat) 103).toInt.toNat) (((aL (coS σ ((aI σ 20) (c).toNatClampNeg) 1 (gI σ 103).toInt.toNat) 98) (((aI σ 20) (c).toNatClampNeg)).toNatClampNeg) &&& (coF (coS σ ((aI σ 20) (c).toNatClampNeg) 1 (gI σ 103).toInt.toNat) ((aI σ 20) (c).toNatClampNeg) 0 (gI (coS σ ((aI σ 20) (c).toNatClampNeg) 1 (gI σ 103).toInt.toNat) 103).toInt.toNat).1)) 97) (((aI σ 20) (c).toNatClampNeg)).toNatClampNeg) = 0) from h151), if_neg (show ¬ ((gI (beS (coS (coS σ ((aI σ 20) (c).toNatClampNeg) 1 (gI σ 103).toInt.toNat) ((aI σ 20) (c).toNatClampNeg) 0 (gI (coS σ ((aI σ 20) (c).toNatClampNeg) 1 (gI σ 103).toInt.toNat) 103).toInt.toNat) (((aL (coS σ ((aI σ 20) (c).toNatClampNeg) 1 (gI σ 103).toInt.toNat) 98) (((aI σ 20) (c).toNatClampNeg)).toNatClampNeg) &&& (coF (coS σ ((aI σ 20) (c).toNatClampNeg) 1 (gI σ 103).toInt.toNat) ((aI σ 20) (c).toNatClampNeg) 0 (gI (coS σ ((aI σ 20) (c).toNatClampNeg) 1 (gI σ 103).toInt.toNat) 103).toInt.toNat).1)) 116) = 0) from h156)])
            refine ⟨(gI σ 112), (gI σ 113), ⟨Or.inl, fun q => q.elim id (fun z => absurd z (fun z => z.elim (fun y => by omega) (fun y => by omega)))⟩, ?_, ?_⟩
            · rw [la_id]
              exact (congrArg Prod.fst es).symm
            · rw [la_id]
              exact congrArg (fun z => some (Value.int z)) (congrArg Prod.snd es).symm
      have c144 : ¬ (aI σ 19 c.toNatClampNeg).toInt = 28 := fun q => h144 ((rfl : (aI σ 19 c.toNatClampNeg).toInt = (aI σ 19 c.toNatClampNeg).toInt).trans q)
      refine ⟨fun h163 => ?_, fun h163 => ?_⟩
      · have c163 : (aI σ 19 c.toNatClampNeg).toInt = 29 := (rfl : (aI σ 19 c.toNatClampNeg).toInt = (aI σ 19 c.toNatClampNeg).toInt).symm.trans h163
        refine hB _ _ _ _ _ (fun m164 hm164 => ?_)
        dsimp only [ugo, uwp, ust, uct, rfd, BflowStep, BflowStep_1420, Nat.beq, lv_args, rlk, rs1, rs2, rdl, rky, rcd, rno, rsw, Value.category, List.filter, List.take, List.drop, List.reverse, List.reverseAux, List.cons_append, List.nil_append, Option.toList, Int.toNat, Int.reduceToNat, if_pos, if_neg, reduceIte, ↓reduceIte, Nat.reduceAdd, Nat.reduceEqDiff, Nat.reduceBEq, beq_self_eq_true, Bool.not_true, Bool.not_false, Bool.and_true, Bool.and_false, Bool.true_and, Bool.false_and, gI_sI, gI_sL, gI_sA, gI_sM, gL_sI, gL_sL, gL_sA, gL_sM, aI_sI, aI_sL, aI_sA, aI_sM, aL_sI, aL_sL, aL_sA, aL_sM, oi_1]; try dsimp only
        unfold Qv_flowStep
        try dsimp only
        have es : fsS σ c = (σ, (c + 1)) := fs_d (by show ¬ ((20 ≤ (aI σ 19 c.toNatClampNeg).toInt ∧ (aI σ 19 c.toNatClampNeg).toInt ≤ 25) ∨ (aI σ 19 c.toNatClampNeg).toInt = 27 ∨ (aI σ 19 c.toNatClampNeg).toInt = 28 ∨ (aI σ 19 c.toNatClampNeg).toInt = 30 ∨ (aI σ 19 c.toNatClampNeg).toInt = 31 ∨ (aI σ 19 c.toNatClampNeg).toInt = 33 ∨ (aI σ 19 c.toNatClampNeg).toInt = 35 ∨ (aI σ 19 c.toNatClampNeg).toInt = 36 ∨ (aI σ 19 c.toNatClampNeg).toInt = 37 ∨ (aI σ 19 c.toNatClampNeg).toInt = 38 ∨ (aI σ 19 c.toNatClampNeg).toInt = 39 ∨ (aI σ 19 c.toNatClampNeg).toInt = 40 ∨ (aI σ 19 c.toNatClampNeg).toInt = 42 ∨ (aI σ 19 c.toNatClampNeg).toInt = 45 ∨ (aI σ 19 c.toNatClampNeg).toInt = 46 ∨ (aI σ 19 c.toNatClampNeg).toInt = 47 ∨ (aI σ 19 c.toNatClampNeg).toInt = 48 ∨ (aI σ 19 c.toNatClampNeg).toInt = 49 ∨ (aI σ 19 c.toNatClampNeg).toInt = 50 ∨ (aI σ 19 c.toNatClampNeg).toInt = 51 ∨ (aI σ 19 c.toNatClampNeg).toInt = 52 ∨ (aI σ 19 c.toNatClampNeg).toInt = 53); omega)
        refine ⟨(gI σ 112), (gI σ 113), ⟨Or.inl, fun q => q.elim id (fun z => absurd z (fun z => z.elim (fun y => by omega) (fun y => by omega)))⟩, ?_, ?_⟩
        · rw [la_id]
          exact (congrArg Prod.fst es).symm
        · rw [la_id]
          exact congrArg (fun z => some (Value.int z)) (congrArg Prod.snd es).symm
      have c163 : ¬ (aI σ 19 c.toNatClampNeg).toInt = 29 := fun q => h163 ((rfl : (aI σ 19 c.toNatClampNeg).toInt = (aI σ 19 c.toNatClampNeg).toInt).trans q)
      refine ⟨fun h165 => ?_, fun h165 => ?_⟩
      · have c165 : (aI σ 19 c.toNatClampNeg).toInt = 30 := (rfl : (aI σ 19 c.toNatClampNeg).toInt = (aI σ 19 c.toNatClampNeg).toInt).symm.trans h165
        refine hB _ _ _ _ _ (fun m166 hm166 => ?_)
        dsimp only [ugo, uwp, ust, uct, rfd, BflowStep, BflowStep_613, Nat.beq, lv_args, rlk, rs1, rs2, rdl, rky, rcd, rno, rsw, Value.category, List.filter, List.take, List.drop, List.reverse, List.reverseAux, List.cons_append, List.nil_append, Option.toList, Int.toNat, Int.reduceToNat, if_pos, if_neg, reduceIte, ↓reduceIte, Nat.reduceAdd, Nat.reduceEqDiff, Nat.reduceBEq, beq_self_eq_true, Bool.not_true, Bool.not_false, Bool.and_true, Bool.and_false, Bool.true_and, Bool.false_and, gI_sI, gI_sL, gI_sA, gI_sM, gL_sI, gL_sL, gL_sA, gL_sM, aI_sI, aI_sL, aI_sA, aI_sM, aL_sI, aL_sL, aL_sA, aL_sM, oi_1]; try dsimp only
        refine ⟨trivial, fun w167 τ167 hq167 => ?_⟩
        obtain ⟨rfl, rfl⟩ := hq167 trivial
        dsimp only [Option.toList, List.cons_append, List.nil_append, Nat.beq, gI_sI, gI_sL, gI_sA, gI_sM, gL_sI, gL_sL, gL_sA, gL_sM, aI_sI, aI_sL, aI_sA, aI_sM, aL_sI, aL_sL, aL_sA, aL_sM]
        refine ⟨trivial, fun w168 τ168 hq168 => ?_⟩
        obtain ⟨rfl, _, rfl, rfl⟩ := hq168 trivial
        dsimp only [Option.toList, List.cons_append, List.nil_append, Nat.beq, gI_sI, gI_sL, gI_sA, gI_sM, gL_sI, gL_sL, gL_sA, gL_sM, aI_sI, aI_sL, aI_sA, aI_sM, aL_sI, aL_sL, aL_sA, aL_sM]
        refine ⟨trivial, fun w169 τ169 hq169 => ?_⟩
        obtain ⟨rfl, rfl⟩ := hq169 trivial
        dsimp only [Option.toList, List.cons_append, List.nil_append, Nat.beq, gI_sI, gI_sL, gI_sA, gI_sM, gL_sI, gL_sL, gL_sA, gL_sM, aI_sI, aI_sL, aI_sA, aI_sM, aL_sI, aL_sL, aL_sA, aL_sM]
        refine ⟨fun h170 => ?_, fun h170 => ?_⟩
        · refine hB _ _ _ _ _ (fun m171 hm171 => ?_)
          dsimp only [ugo, uwp, ust, uct, rfd, BflowStep, BflowStep_647, Nat.beq, lv_args, rlk, rs1, rs2, rdl, rky, rcd, rno, rsw, Value.category, List.filter, List.take, List.drop, List.reverse, List.reverseAux, List.cons_append, List.nil_append, Option.toList, Int.toNat, Int.reduceToNat, if_pos, if_neg, reduceIte, ↓reduceIte, Nat.reduceAdd, Nat.reduceEqDiff, Nat.reduceBEq, beq_self_eq_true, Bool.not_true, Bool.not_false, Bool.and_true, Bool.and_false, Bool.true_and, Bool.false_and, gI_sI, gI_sL, gI_sA, gI_sM, gL_sI, gL_sL, gL_sA, gL_sM, aI_sI, aI_sL, aI_sA, aI_sM, aL_sI, aL_sL, aL_sA, aL_sM, oi_1]; try dsimp only
          refine hB _ _ _ _ _ (fun m172 hm172 => ?_)
          dsimp only [ugo, uwp, ust, uct, rfd, BflowStep, BflowStep_652, Nat.beq, lv_args, rlk, rs1, rs2, rdl, rky, rcd, rno, rsw, Value.category, List.filter, List.take, List.drop, List.reverse, List.reverseAux, List.cons_append, List.nil_append, Option.toList, Int.toNat, Int.reduceToNat, if_pos, if_neg, reduceIte, ↓reduceIte, Nat.reduceAdd, Nat.reduceEqDiff, Nat.reduceBEq, beq_self_eq_true, Bool.not_true, Bool.not_false, Bool.and_true, Bool.and_false, Bool.true_and, Bool.false_and, gI_sI, gI_sL, gI_sA, gI_sM, gL_sI, gL_sL, gL_sA, gL_sM, aI_sI, aI_sL, aI_sA, aI_sM, aL_sI, aL_sL, aL_sA, aL_sM]; try dsimp only
          intro p173
          refine hB _ _ _ _ _ (fun m174 hm174 => ?_)
          dsimp only [ugo, uwp, ust, uct, rfd, BflowStep, BflowStep_1420, Nat.beq, lv_args, rlk, rs1, rs2, rdl, rky, rcd, rno, rsw, Value.category, List.filter, List.take, List.drop, List.reverse, List.reverseAux, List.cons_append, List.nil_append, Option.toList, Int.toNat, Int.reduceToNat, if_pos, if_neg, reduceIte, ↓reduceIte, Nat.reduceAdd, Nat.reduceEqDiff, Nat.reduceBEq, beq_self_eq_true, Bool.not_true, Bool.not_false, Bool.and_true, Bool.and_false, Bool.true_and, Bool.false_and, gI_sI, gI_sL, gI_sA, gI_sM, gL_sI, gL_sL, gL_sA, gL_sM, aI_sI, aI_sL, aI_sA, aI_sM, aL_sI, aL_sL, aL_sA, aL_sM, oi_1]; try dsimp only
          unfold Qv_flowStep
          try dsimp only
          have es : fsS σ c = ((sA (beS (coS σ ((aI σ 20) (c).toNatClampNeg) 1 (gI σ 103).toInt.toNat) ((nowR σ) &&& (coF σ ((aI σ 20) (c).toNatClampNeg) 1 (gI σ 103).toInt.toNat).1)) 95 (upd (aI (beS (coS σ ((aI σ 20) (c).toNatClampNeg) 1 (gI σ 103).toInt.toNat) ((nowR σ) &&& (coF σ ((aI σ 20) (c).toNatClampNeg) 1 (gI σ 103).toInt.toNat).1)) 95) (((aI σ 20) (c).toNatClampNeg)).toNatClampNeg 1)), (c + 1)) := (fs_e30 (by show (aI σ 19 c.toNatClampNeg).toInt = 30; omega)).trans (by unfold fs_30; rw [if_neg (show ¬ ((gI (beS (coS σ ((aI σ 20) (c).toNatClampNeg) 1 (gI σ 103).toInt.toNat) ((nowR σ) &&& (coF σ ((aI σ 20) (c).toNatClampNeg) 1 (gI σ 103).toInt.toNat).1)) 92) = 0) from h170)])
          refine ⟨(gI σ 112), (gI σ 113), ⟨Or.inl, fun q => q.elim id (fun z => absurd z (fun z => z.elim (fun y => by omega) (fun y => by omega)))⟩, ?_, ?_⟩
          · rw [la_id]
            exact (congrArg Prod.fst es).symm
          · rw [la_id]
            exact congrArg (fun z => some (Value.int z)) (congrArg Prod.snd es).symm
        · refine hB _ _ _ _ _ (fun m175 hm175 => ?_)
          dsimp only [ugo, uwp, ust, uct, rfd, BflowStep, BflowStep_640, Nat.beq, lv_args, rlk, rs1, rs2, rdl, rky, rcd, rno, rsw, Value.category, List.filter, List.take, List.drop, List.reverse, List.reverseAux, List.cons_append, List.nil_append, Option.toList, Int.toNat, Int.reduceToNat, if_pos, if_neg, reduceIte, ↓reduceIte, Nat.reduceAdd, Nat.reduceEqDiff, Nat.reduceBEq, beq_self_eq_true, Bool.not_true, Bool.not_false, Bool.and_true, Bool.and_false, Bool.true_and, Bool.false_and, gI_sI, gI_sL, gI_sA, gI_sM, gL_sI, gL_sL, gL_sA, gL_sM, aI_sI, aI_sL, aI_sA, aI_sM, aL_sI, aL_sL, aL_sA, aL_sM]; try dsimp only
          refine ⟨fun h176 => ?_, fun h176 => ?_⟩
          · refine hB _ _ _ _ _ (fun m177 hm177 => ?_)
            dsimp only [ugo, uwp, ust, uct, rfd, BflowStep, BflowStep_651, Nat.beq, lv_args, rlk, rs1, rs2, rdl, rky, rcd, rno, rsw, Value.category, List.filter, List.take, List.drop, List.reverse, List.reverseAux, List.cons_append, List.nil_append, Option.toList, Int.toNat, Int.reduceToNat, if_pos, if_neg, reduceIte, ↓reduceIte, Nat.reduceAdd, Nat.reduceEqDiff, Nat.reduceBEq, beq_self_eq_true, Bool.not_true, Bool.not_false, Bool.and_true, Bool.and_false, Bool.true_and, Bool.false_and, gI_sI, gI_sL, gI_sA, gI_sM, gL_sI, gL_sL, gL_sA, gL_sM, aI_sI, aI_sL, aI_sA, aI_sM, aL_sI, aL_sL, aL_sA, aL_sM, oi_0]; try dsimp only
            refine hB _ _ _ _ _ (fun m178 hm178 => ?_)
            dsimp only [ugo, uwp, ust, uct, rfd, BflowStep, BflowStep_652, Nat.beq, lv_args, rlk, rs1, rs2, rdl, rky, rcd, rno, rsw, Value.category, List.filter, List.take, List.drop, List.reverse, List.reverseAux, List.cons_append, List.nil_append, Option.toList, Int.toNat, Int.reduceToNat, if_pos, if_neg, reduceIte, ↓reduceIte, Nat.reduceAdd, Nat.reduceEqDiff, Nat.reduceBEq, beq_self_eq_true, Bool.not_true, Bool.not_false, Bool.and_true, Bool.and_false, Bool.true_and, Bool.false_and, gI_sI, gI_sL, gI_sA, gI_sM, gL_sI, gL_sL, gL_sA, gL_sM, aI_sI, aI_sL, aI_sA, aI_sM, aL_sI, aL_sL, aL_sA, aL_sM]; try dsimp only
            intro p179
            refine hB _ _ _ _ _ (fun m180 hm180 => ?_)
            dsimp only [ugo, uwp, ust, uct, rfd, BflowStep, BflowStep_1420, Nat.beq, lv_args, rlk, rs1, rs2, rdl, rky, rcd, rno, rsw, Value.category, List.filter, List.take, List.drop, List.reverse, List.reverseAux, List.cons_append, List.nil_append, Option.toList, Int.toNat, Int.reduceToNat, if_pos, if_neg, reduceIte, ↓reduceIte, Nat.reduceAdd, Nat.reduceEqDiff, Nat.reduceBEq, beq_self_eq_true, Bool.not_true, Bool.not_false, Bool.and_true, Bool.and_false, Bool.true_and, Bool.false_and, gI_sI, gI_sL, gI_sA, gI_sM, gL_sI, gL_sL, gL_sA, gL_sM, aI_sI, aI_sL, aI_sA, aI_sM, aL_sI, aL_sL, aL_sA, aL_sM, oi_1]; try dsimp only
            unfold Qv_flowStep
            try dsimp only
            have es : fsS σ c = ((sA (beS (coS σ ((aI σ 20) (c).toNatClampNeg) 1 (gI σ 103).toInt.toNat) ((nowR σ) &&& (coF σ ((aI σ 20) (c).toNatClampNeg) 1 (gI σ 103).toInt.toNat).1)) 95 (upd (aI (beS (coS σ ((aI σ 20) (c).toNatClampNeg) 1 (gI σ 103).toInt.toNat) ((nowR σ) &&& (coF σ ((aI σ 20) (c).toNatClampNeg) 1 (gI σ 103).toInt.toNat).1)) 95) (((aI σ 20) (c).toNatClampNeg)).toNatClampNeg 0)), (c + 1)) := (fs_e30 (by show (aI σ 19 c.toNatClampNeg).toInt = 30; omega)).trans (by unfold fs_30; rw [if_pos (show (gI (beS (coS σ ((aI σ 20) (c).toNatClampNeg) 1 (gI σ 103).toInt.toNat) ((nowR σ) &&& (coF σ ((aI σ 20) (c).toNatClampNeg) 1 (gI σ 103).toInt.toNat).1)) 92) = 0 from h170), if_pos (show (gI (beS (coS σ ((aI σ 20) (c).toNatClampNeg) 1 (gI σ 103).toInt.toNat) ((nowR σ) &&& (coF σ ((aI σ 20) (c).toNatClampNeg) 1 (gI σ 103).toInt.toNat).1)) 116) = 0 from h176)])
            refine ⟨(gI σ 112), (gI σ 113), ⟨Or.inl, fun q => q.elim id (fun z => absurd z (fun z => z.elim (fun y => by omega) (fun y => by omega)))⟩, ?_, ?_⟩
            · rw [la_id]
              exact (congrArg Prod.fst es).symm
            · rw [la_id]
              exact congrArg (fun z => some (Value.int z)) (congrArg Prod.snd es).symm
          · refine hB _ _ _ _ _ (fun m181 hm181 => ?_)
            dsimp only [ugo, uwp, ust, uct, rfd, BflowStep, BflowStep_647, Nat.beq, lv_args, rlk, rs1, rs2, rdl, rky, rcd, rno, rsw, Value.category, List.filter, List.take, List.drop, List.reverse, List.reverseAux, List.cons_append, List.nil_append, Option.toList, Int.toNat, Int.reduceToNat, if_pos, if_neg, reduceIte, ↓reduceIte, Nat.reduceAdd, Nat.reduceEqDiff, Nat.reduceBEq, beq_self_eq_true, Bool.not_true, Bool.not_false, Bool.and_true, Bool.and_false, Bool.true_and, Bool.false_and, gI_sI, gI_sL, gI_sA, gI_sM, gL_sI, gL_sL, gL_sA, gL_sM, aI_sI, aI_sL, aI_sA, aI_sM, aL_sI, aL_sL, aL_sA, aL_sM, oi_1]; try dsimp only
            refine hB _ _ _ _ _ (fun m182 hm182 => ?_)
            dsimp only [ugo, uwp, ust, uct, rfd, BflowStep, BflowStep_652, Nat.beq, lv_args, rlk, rs1, rs2, rdl, rky, rcd, rno, rsw, Value.category, List.filter, List.take, List.drop, List.reverse, List.reverseAux, List.cons_append, List.nil_append, Option.toList, Int.toNat, Int.reduceToNat, if_pos, if_neg, reduceIte, ↓reduceIte, Nat.reduceAdd, Nat.reduceEqDiff, Nat.reduceBEq, beq_self_eq_true, Bool.not_true, Bool.not_false, Bool.and_true, Bool.and_false, Bool.true_and, Bool.false_and, gI_sI, gI_sL, gI_sA, gI_sM, gL_sI, gL_sL, gL_sA, gL_sM, aI_sI, aI_sL, aI_sA, aI_sM, aL_sI, aL_sL, aL_sA, aL_sM]; try dsimp only
            intro p183
            refine hB _ _ _ _ _ (fun m184 hm184 => ?_)
            dsimp only [ugo, uwp, ust, uct, rfd, BflowStep, BflowStep_1420, Nat.beq, lv_args, rlk, rs1, rs2, rdl, rky, rcd, rno, rsw, Value.category, List.filter, List.take, List.drop, List.reverse, List.reverseAux, List.cons_append, List.nil_append, Option.toList, Int.toNat, Int.reduceToNat, if_pos, if_neg, reduceIte, ↓reduceIte, Nat.reduceAdd, Nat.reduceEqDiff, Nat.reduceBEq, beq_self_eq_true, Bool.not_true, Bool.not_false, Bool.and_true, Bool.and_false, Bool.true_and, Bool.false_and, gI_sI, gI_sL, gI_sA, gI_sM, gL_sI, gL_sL, gL_sA, gL_sM, aI_sI, aI_sL, aI_sA, aI_sM, aL_sI, aL_sL, aL_sA, aL_sM, oi_1]; try dsimp only
            unfold Qv_flowStep
            try dsimp only
            have es : fsS σ c = ((sA (beS (coS σ ((aI σ 20) (c).toNatClampNeg) 1 (gI σ 103).toInt.toNat) ((nowR σ) &&& (coF σ ((aI σ 20) (c).toNatClampNeg) 1 (gI σ 103).toInt.toNat).1)) 95 (upd (aI (beS (coS σ ((aI σ 20) (c).toNatClampNeg) 1 (gI σ 103).toInt.toNat) ((nowR σ) &&& (coF σ ((aI σ 20) (c).toNatClampNeg) 1 (gI σ 103).toInt.toNat).1)) 95) (((aI σ 20) (c).toNatClampNeg)).toNatClampNeg 1)), (c + 1)) := (fs_e30 (by show (aI σ 19 c.toNatClampNeg).toInt = 30; omega)).trans (by unfold fs_30; rw [if_pos (show (gI (beS (coS σ ((aI σ 20) (c).toNatClampNeg) 1 (gI σ 103).toInt.toNat) ((nowR σ) &&& (coF σ ((aI σ 20) (c).toNatClampNeg) 1 (gI σ 103).toInt.toNat).1)) 92) = 0 from h170), if_neg (show ¬ ((gI (beS (coS σ ((aI σ 20) (c).toNatClampNeg) 1 (gI σ 103).toInt.toNat) ((nowR σ) &&& (coF σ ((aI σ 20) (c).toNatClampNeg) 1 (gI σ 103).toInt.toNat).1)) 116) = 0) from h176)])
            refine ⟨(gI σ 112), (gI σ 113), ⟨Or.inl, fun q => q.elim id (fun z => absurd z (fun z => z.elim (fun y => by omega) (fun y => by omega)))⟩, ?_, ?_⟩
            · rw [la_id]
              exact (congrArg Prod.fst es).symm
            · rw [la_id]
              exact congrArg (fun z => some (Value.int z)) (congrArg Prod.snd es).symm
      have c165 : ¬ (aI σ 19 c.toNatClampNeg).toInt = 30 := fun q => h165 ((rfl : (aI σ 19 c.toNatClampNeg).toInt = (aI σ 19 c.toNatClampNeg).toInt).trans q)
      refine ⟨fun h185 => ?_, fun h185 => ?_⟩
      · have c185 : (aI σ 19 c.toNatClampNeg).toInt = 31 := (rfl : (aI σ 19 c.toNatClampNeg).toInt = (aI σ 19 c.toNatClampNeg).toInt).symm.trans h185
        refine hB _ _ _ _ _ (fun m186 hm186 => ?_)
        dsimp only [ugo, uwp, ust, uct, rfd, BflowStep, BflowStep_656, Nat.beq, lv_args, rlk, rs1, rs2, rdl, rky, rcd, rno, rsw, Value.category, List.filter, List.take, List.drop, List.reverse, List.reverseAux, List.cons_append, List.nil_append, Option.toList, Int.toNat, Int.reduceToNat, if_pos, if_neg, reduceIte, ↓reduceIte, Nat.reduceAdd, Nat.reduceEqDiff, Nat.reduceBEq, beq_self_eq_true, Bool.not_true, Bool.not_false, Bool.and_true, Bool.and_false, Bool.true_and, Bool.false_and, gI_sI, gI_sL, gI_sA, gI_sM, gL_sI, gL_sL, gL_sA, gL_sM, aI_sI, aI_sL, aI_sA, aI_sM, aL_sI, aL_sL, aL_sA, aL_sM, oi_0]; try dsimp only
        refine ⟨trivial, fun w187 τ187 hq187 => ?_⟩
        obtain ⟨rfl, _, rfl, rfl⟩ := hq187 trivial
        dsimp only [Option.toList, List.cons_append, List.nil_append, Nat.beq, gI_sI, gI_sL, gI_sA, gI_sM, gL_sI, gL_sL, gL_sA, gL_sM, aI_sI, aI_sL, aI_sA, aI_sM, aL_sI, aL_sL, aL_sA, aL_sM]
        refine ⟨trivial, fun w188 τ188 hq188 => ?_⟩
        obtain ⟨rfl, rfl⟩ := hq188 trivial
        dsimp only [Option.toList, List.cons_append, List.nil_append, Nat.beq, gI_sI, gI_sL, gI_sA, gI_sM, gL_sI, gL_sL, gL_sA, gL_sM, aI_sI, aI_sL, aI_sA, aI_sM, aL_sI, aL_sL, aL_sA, aL_sM]
        intro p189
        refine ⟨fun h190 => ?_, fun h190 => ?_⟩
        · refine hB _ _ _ _ _ (fun m191 hm191 => ?_)
          dsimp only [ugo, uwp, ust, uct, rfd, BflowStep, BflowStep_686, Nat.beq, lv_args, rlk, rs1, rs2, rdl, rky, rcd, rno, rsw, Value.category, List.filter, List.take, List.drop, List.reverse, List.reverseAux, List.cons_append, List.nil_append, Option.toList, Int.toNat, Int.reduceToNat, if_pos, if_neg, reduceIte, ↓reduceIte, Nat.reduceAdd, Nat.reduceEqDiff, Nat.reduceBEq, beq_self_eq_true, Bool.not_true, Bool.not_false, Bool.and_true, Bool.and_false, Bool.true_and, Bool.false_and, gI_sI, gI_sL, gI_sA, gI_sM, gL_sI, gL_sL, gL_sA, gL_sM, aI_sI, aI_sL, aI_sA, aI_sM, aL_sI, aL_sL, aL_sA, aL_sM]; try dsimp only
          refine ⟨fun h192 => ?_, fun h192 => ?_⟩
          · refine hB _ _ _ _ _ (fun m193 hm193 => ?_)
            dsimp only [ugo, uwp, ust, uct, rfd, BflowStep, BflowStep_697, Nat.beq, lv_args, rlk, rs1, rs2, rdl, rky, rcd, rno, rsw, Value.category, List.filter, List.take, List.drop, List.reverse, List.reverseAux, List.cons_append, List.nil_append, Option.toList, Int.toNat, Int.reduceToNat, if_pos, if_neg, reduceIte, ↓reduceIte, Nat.reduceAdd, Nat.reduceEqDiff, Nat.reduceBEq, beq_self_eq_true, Bool.not_true, Bool.not_false, Bool.and_true, Bool.and_false, Bool.true_and, Bool.false_and, gI_sI, gI_sL, gI_sA, gI_sM, gL_sI, gL_sL, gL_sA, gL_sM, aI_sI, aI_sL, aI_sA, aI_sM, aL_sI, aL_sL, aL_sA, aL_sM, oi_0]; try dsimp only
            refine hB _ _ _ _ _ (fun m194 hm194 => ?_)
            dsimp only [ugo, uwp, ust, uct, rfd, BflowStep, BflowStep_698, Nat.beq, lv_args, rlk, rs1, rs2, rdl, rky, rcd, rno, rsw, Value.category, List.filter, List.take, List.drop, List.reverse, List.reverseAux, List.cons_append, List.nil_append, Option.toList, Int.toNat, Int.reduceToNat, if_pos, if_neg, reduceIte, ↓reduceIte, Nat.reduceAdd, Nat.reduceEqDiff, Nat.reduceBEq, beq_self_eq_true, Bool.not_true, Bool.not_false, Bool.and_true, Bool.and_false, Bool.true_and, Bool.false_and, gI_sI, gI_sL, gI_sA, gI_sM, gL_sI, gL_sL, gL_sA, gL_sM, aI_sI, aI_sL, aI_sA, aI_sM, aL_sI, aL_sL, aL_sA, aL_sM]; try dsimp only
            refine hB _ _ _ _ _ (fun m195 hm195 => ?_)
            dsimp only [ugo, uwp, ust, uct, rfd, BflowStep, BflowStep_1420, Nat.beq, lv_args, rlk, rs1, rs2, rdl, rky, rcd, rno, rsw, Value.category, List.filter, List.take, List.drop, List.reverse, List.reverseAux, List.cons_append, List.nil_append, Option.toList, Int.toNat, Int.reduceToNat, if_pos, if_neg, reduceIte, ↓reduceIte, Nat.reduceAdd, Nat.reduceEqDiff, Nat.reduceBEq, beq_self_eq_true, Bool.not_true, Bool.not_false, Bool.and_true, Bool.and_false, Bool.true_and, Bool.false_and, gI_sI, gI_sL, gI_sA, gI_sM, gL_sI, gL_sL, gL_sA, gL_sM, aI_sI, aI_sL, aI_sA, aI_sM, aL_sI, aL_sL, aL_sA, aL_sM, oi_1]; try dsimp only
            unfold Qv_flowStep
            try dsimp only
            have es : fsS σ c = ((sI (beS (coS σ ((aI σ 20) (c).toNatClampNeg) 0 (gI σ 103).toInt.toNat) ((gL σ 94) &&& (coF σ ((aI σ 20) (c).toNatClampNeg) 0 (gI σ 103).toInt.toNat).1)) 92 0), (c + 1)) := (fs_e31 (by show (aI σ 19 c.toNatClampNeg).toInt = 31; omega)).trans (by unfold fs_31; rw [if_pos (show ((aI (beS (coS σ ((aI σ 20) (c).toNatClampNeg) 0 (gI σ 103).toInt.toNat) ((gL σ 94) &&& (coF σ ((aI σ 20) (c).toNatClampNeg) 0 (gI σ 103).toInt.toNat).1)) 95) (((aI σ 20) (c).toNatClampNeg)).toNatClampNeg) = 0 from h190), if_pos (show (gI (beS (coS σ ((aI σ 20) (c).toNatClampNeg) 0 (gI σ 103).toInt.toNat) ((gL σ 94) &&& (coF σ ((aI σ 20) (c).toNatClampNeg) 0 (gI σ 103).toInt.toNat).1)) 116) = 0 from h192)])
            refine ⟨(gI σ 112), (gI σ 113), ⟨Or.inl, fun q => q.elim id (fun z => absurd z (fun z => z.elim (fun y => by omega) (fun y => by omega)))⟩, ?_, ?_⟩
            · rw [la_id]
              exact (congrArg Prod.fst es).symm
            · rw [la_id]
              exact congrArg (fun z => some (Value.int z)) (congrArg Prod.snd es).symm
          · refine hB _ _ _ _ _ (fun m196 hm196 => ?_)
            dsimp only [ugo, uwp, ust, uct, rfd, BflowStep, BflowStep_693, Nat.beq, lv_args, rlk, rs1, rs2, rdl, rky, rcd, rno, rsw, Value.category, List.filter, List.take, List.drop, List.reverse, List.reverseAux, List.cons_append, List.nil_append, Option.toList, Int.toNat, Int.reduceToNat, if_pos, if_neg, reduceIte, ↓reduceIte, Nat.reduceAdd, Nat.reduceEqDiff, Nat.reduceBEq, beq_self_eq_true, Bool.not_true, Bool.not_false, Bool.and_true, Bool.and_false, Bool.true_and, Bool.false_and, gI_sI, gI_sL, gI_sA, gI_sM, gL_sI, gL_sL, gL_sA, gL_sM, aI_sI, aI_sL, aI_sA, aI_sM, aL_sI, aL_sL, aL_sA, aL_sM, oi_1]; try dsimp only
            refine hB _ _ _ _ _ (fun m197 hm197 => ?_)
            dsimp only [ugo, uwp, ust, uct, rfd, BflowStep, BflowStep_698, Nat.beq, lv_args, rlk, rs1, rs2, rdl, rky, rcd, rno, rsw, Value.category, List.filter, List.take, List.drop, List.reverse, List.reverseAux, List.cons_append, List.nil_append, Option.toList, Int.toNat, Int.reduceToNat, if_pos, if_neg, reduceIte, ↓reduceIte, Nat.reduceAdd, Nat.reduceEqDiff, Nat.reduceBEq, beq_self_eq_true, Bool.not_true, Bool.not_false, Bool.and_true, Bool.and_false, Bool.true_and, Bool.false_and, gI_sI, gI_sL, gI_sA, gI_sM, gL_sI, gL_sL, gL_sA, gL_sM, aI_sI, aI_sL, aI_sA, aI_sM, aL_sI, aL_sL, aL_sA, aL_sM]; try dsimp only
            refine hB _ _ _ _ _ (fun m198 hm198 => ?_)
            dsimp only [ugo, uwp, ust, uct, rfd, BflowStep, BflowStep_1420, Nat.beq, lv_args, rlk, rs1, rs2, rdl, rky, rcd, rno, rsw, Value.category, List.filter, List.take, List.drop, List.reverse, List.reverseAux, List.cons_append, List.nil_append, Option.toList, Int.toNat, Int.reduceToNat, if_pos, if_neg, reduceIte, ↓reduceIte, Nat.reduceAdd, Nat.reduceEqDiff, Nat.reduceBEq, beq_self_eq_true, Bool.not_true, Bool.not_false, Bool.and_true, Bool.and_false, Bool.true_and, Bool.false_and, gI_sI, gI_sL, gI_sA, gI_sM, gL_sI, gL_sL, gL_sA, gL_sM, aI_sI, aI_sL, aI_sA, aI_sM, aL_sI, aL_sL, aL_sA, aL_sM, oi_1]; try dsimp only
            unfold Qv_flowStep
            try dsimp only
            have es : fsS σ c = ((sI (beS (coS σ ((aI σ 20) (c).toNatClampNeg) 0 (gI σ 103).toInt.toNat) ((gL σ 94) &&& (coF σ ((aI σ 20) (c).toNatClampNeg) 0 (gI σ 103).toInt.toNat).1)) 92 1), (c + 1)) := (fs_e31 (by show (aI σ 19 c.toNatClampNeg).toInt = 31; omega)).trans (by unfold fs_31; rw [if_pos (show ((aI (beS (coS σ ((aI σ 20) (c).toNatClampNeg) 0 (gI σ 103).toInt.toNat) ((gL σ 94) &&& (coF σ ((aI σ 20) (c).toNatClampNeg) 0 (gI σ 103).toInt.toNat).1)) 95) (((aI σ 20) (c).toNatClampNeg)).toNatClampNeg) = 0 from h190), if_neg (show ¬ ((gI (beS (coS σ ((aI σ 20) (c).toNatClampNeg) 0 (gI σ 103).toInt.toNat) ((gL σ 94) &&& (coF σ ((aI σ 20) (c).toNatClampNeg) 0 (gI σ 103).toInt.toNat).1)) 116) = 0) from h192)])
            refine ⟨(gI σ 112), (gI σ 113), ⟨Or.inl, fun q => q.elim id (fun z => absurd z (fun z => z.elim (fun y => by omega) (fun y => by omega)))⟩, ?_, ?_⟩
            · rw [la_id]
              exact (congrArg Prod.fst es).symm
            · rw [la_id]
              exact congrArg (fun z => some (Value.int z)) (congrArg Prod.snd es).symm
        · refine hB _ _ _ _ _ (fun m199 hm199 => ?_)
          dsimp only [ugo, uwp, ust, uct, rfd, BflowStep, BflowStep_681, Nat.beq, lv_args, rlk, rs1, rs2, rdl, rky, rcd, rno, rsw, Value.category, List.filter, List.take, List.drop, List.reverse, List.reverseAux, List.cons_append, List.nil_append, Option.toList, Int.toNat, Int.reduceToNat, if_pos, if_neg, reduceIte, ↓reduceIte, Nat.reduceAdd, Nat.reduceEqDiff, Nat.reduceBEq, beq_self_eq_true, Bool.not_true, Bool.not_false, Bool.and_true, Bool.and_false, Bool.true_and, Bool.false_and, gI_sI, gI_sL, gI_sA, gI_sM, gL_sI, gL_sL, gL_sA, gL_sM, aI_sI, aI_sL, aI_sA, aI_sM, aL_sI, aL_sL, aL_sA, aL_sM]; try dsimp only
          refine ⟨fun h200 => ?_, fun h200 => ?_⟩
          · refine hB _ _ _ _ _ (fun m201 hm201 => ?_)
            dsimp only [ugo, uwp, ust, uct, rfd, BflowStep, BflowStep_693, Nat.beq, lv_args, rlk, rs1, rs2, rdl, rky, rcd, rno, rsw, Value.category, List.filter, List.take, List.drop, List.reverse, List.reverseAux, List.cons_append, List.nil_append, Option.toList, Int.toNat, Int.reduceToNat, if_pos, if_neg, reduceIte, ↓reduceIte, Nat.reduceAdd, Nat.reduceEqDiff, Nat.reduceBEq, beq_self_eq_true, Bool.not_true, Bool.not_false, Bool.and_true, Bool.and_false, Bool.true_and, Bool.false_and, gI_sI, gI_sL, gI_sA, gI_sM, gL_sI, gL_sL, gL_sA, gL_sM, aI_sI, aI_sL, aI_sA, aI_sM, aL_sI, aL_sL, aL_sA, aL_sM, oi_1]; try dsimp only
            refine hB _ _ _ _ _ (fun m202 hm202 => ?_)
            dsimp only [ugo, uwp, ust, uct, rfd, BflowStep, BflowStep_698, Nat.beq, lv_args, rlk, rs1, rs2, rdl, rky, rcd, rno, rsw, Value.category, List.filter, List.take, List.drop, List.reverse, List.reverseAux, List.cons_append, List.nil_append, Option.toList, Int.toNat, Int.reduceToNat, if_pos, if_neg, reduceIte, ↓reduceIte, Nat.reduceAdd, Nat.reduceEqDiff, Nat.reduceBEq, beq_self_eq_true, Bool.not_true, Bool.not_false, Bool.and_true, Bool.and_false, Bool.true_and, Bool.false_and, gI_sI, gI_sL, gI_sA, gI_sM, gL_sI, gL_sL, gL_sA, gL_sM, aI_sI, aI_sL, aI_sA, aI_sM, aL_sI, aL_sL, aL_sA, aL_sM]; try dsimp only
            refine hB _ _ _ _ _ (fun m203 hm203 => ?_)
            dsimp only [ugo, uwp, ust, uct, rfd, BflowStep, BflowStep_1420, Nat.beq, lv_args, rlk, rs1, rs2, rdl, rky, rcd, rno, rsw, Value.category, List.filter, List.take, List.drop, List.reverse, List.reverseAux, List.cons_append, List.nil_append, Option.toList, Int.toNat, Int.reduceToNat, if_pos, if_neg, reduceIte, ↓reduceIte, Nat.reduceAdd, Nat.reduceEqDiff, Nat.reduceBEq, beq_self_eq_true, Bool.not_true, Bool.not_false, Bool.and_true, Bool.and_false, Bool.true_and, Bool.false_and, gI_sI, gI_sL, gI_sA, gI_sM, gL_sI, gL_sL, gL_sA, gL_sM, aI_sI, aI_sL, aI_sA, aI_sM, aL_sI, aL_sL, aL_sA, aL_sM, oi_1]; try dsimp only
            unfold Qv_flowStep
            try dsimp only
            have es : fsS σ c = ((sI (beS (coS σ ((aI σ 20) (c).toNatClampNeg) 0 (gI σ 103).toInt.toNat) ((gL σ 94) &&& (coF σ ((aI σ 20) (c).toNatClampNeg) 0 (gI σ 103).toInt.toNat).1)) 92 1), (c + 1)) := (fs_e31 (by show (aI σ 19 c.toNatClampNeg).toInt = 31; omega)).trans (by unfold fs_31; rw [if_neg (show ¬ (((aI (beS (coS σ ((aI σ 20) (c).toNatClampNeg) 0 (gI σ 103).toInt.toNat) ((gL σ 94) &&& (coF σ ((aI σ 20) (c).toNatClampNeg) 0 (gI σ 103).toInt.toNat).1)) 95) (((aI σ 20) (c).toNatClampNeg)).toNatClampNeg) = 0) from h190), if_pos (show (alR σ c) = 0 from h200)])
            refine ⟨(gI σ 112), (gI σ 113), ⟨Or.inl, fun q => q.elim id (fun z => absurd z (fun z => z.elim (fun y => by omega) (fun y => by omega)))⟩, ?_, ?_⟩
            · rw [la_id]
              exact (congrArg Prod.fst es).symm
            · rw [la_id]
              exact congrArg (fun z => some (Value.int z)) (congrArg Prod.snd es).symm
          · refine hB _ _ _ _ _ (fun m204 hm204 => ?_)
            dsimp only [ugo, uwp, ust, uct, rfd, BflowStep, BflowStep_686, Nat.beq, lv_args, rlk, rs1, rs2, rdl, rky, rcd, rno, rsw, Value.category, List.filter, List.take, List.drop, List.reverse, List.reverseAux, List.cons_append, List.nil_append, Option.toList, Int.toNat, Int.reduceToNat, if_pos, if_neg, reduceIte, ↓reduceIte, Nat.reduceAdd, Nat.reduceEqDiff, Nat.reduceBEq, beq_self_eq_true, Bool.not_true, Bool.not_false, Bool.and_true, Bool.and_false, Bool.true_and, Bool.false_and, gI_sI, gI_sL, gI_sA, gI_sM, gL_sI, gL_sL, gL_sA, gL_sM, aI_sI, aI_sL, aI_sA, aI_sM, aL_sI, aL_sL, aL_sA, aL_sM]; try dsimp only
            refine ⟨fun h205 => ?_, fun h205 => ?_⟩
            · refine hB _ _ _ _ _ (fun m206 hm206 => ?_)
              dsimp only [ugo, uwp, ust, uct, rfd, BflowStep, BflowStep_697, Nat.beq, lv_args, rlk, rs1, rs2, rdl, rky, rcd, rno, rsw, Value.category, List.filter, List.take, List.drop, List.reverse, List.reverseAux, List.cons_append, List.nil_append, Option.toList, Int.toNat, Int.reduceToNat, if_pos, if_neg, reduceIte, ↓reduceIte, Nat.reduceAdd, Nat.reduceEqDiff, Nat.reduceBEq, beq_self_eq_true, Bool.not_true, Bool.not_false, Bool.and_true, Bool.and_false, Bool.true_and, Bool.false_and, gI_sI, gI_sL, gI_sA, gI_sM, gL_sI, gL_sL, gL_sA, gL_sM, aI_sI, aI_sL, aI_sA, aI_sM, aL_sI, aL_sL, aL_sA, aL_sM, oi_0]; try dsimp only
              refine hB _ _ _ _ _ (fun m207 hm207 => ?_)
              dsimp only [ugo, uwp, ust, uct, rfd, BflowStep, BflowStep_698, Nat.beq, lv_args, rlk, rs1, rs2, rdl, rky, rcd, rno, rsw, Value.category, List.filter, List.take, List.drop, List.reverse, List.reverseAux, List.cons_append, List.nil_append, Option.toList, Int.toNat, Int.reduceToNat, if_pos, if_neg, reduceIte, ↓reduceIte, Nat.reduceAdd, Nat.reduceEqDiff, Nat.reduceBEq, beq_self_eq_true, Bool.not_true, Bool.not_false, Bool.and_true, Bool.and_false, Bool.true_and, Bool.false_and, gI_sI, gI_sL, gI_sA, gI_sM, gL_sI, gL_sL, gL_sA, gL_sM, aI_sI, aI_sL, aI_sA, aI_sM, aL_sI, aL_sL, aL_sA, aL_sM]; try dsimp only
              refine hB _ _ _ _ _ (fun m208 hm208 => ?_)
              dsimp only [ugo, uwp, ust, uct, rfd, BflowStep, BflowStep_1420, Nat.beq, lv_args, rlk, rs1, rs2, rdl, rky, rcd, rno, rsw, Value.category, List.filter, List.take, List.drop, List.reverse, List.reverseAux, List.cons_append, List.nil_append, Option.toList, Int.toNat, Int.reduceToNat, if_pos, if_neg, reduceIte, ↓reduceIte, Nat.reduceAdd, Nat.reduceEqDiff, Nat.reduceBEq, beq_self_eq_true, Bool.not_true, Bool.not_false, Bool.and_true, Bool.and_false, Bool.true_and, Bool.false_and, gI_sI, gI_sL, gI_sA, gI_sM, gL_sI, gL_sL, gL_sA, gL_sM, aI_sI, aI_sL, aI_sA, aI_sM, aL_sI, aL_sL, aL_sA, aL_sM, oi_1]; try dsimp only
              unfold Qv_flowStep
              try dsimp only
              have es : fsS σ c = ((sI (beS (coS σ ((aI σ 20) (c).toNatClampNeg) 0 (gI σ 103).toInt.toNat) ((gL σ 94) &&& (coF σ ((aI σ 20) (c).toNatClampNeg) 0 (gI σ 103).toInt.toNat).1)) 92 0), (c + 1)) := (fs_e31 (by show (aI σ 19 c.toNatClampNeg).toInt = 31; omega)).trans (by unfold fs_31; rw [if_neg (show ¬ (((aI (beS (coS σ ((aI σ 20) (c).toNatClampNeg) 0 (gI σ 103).toInt.toNat) ((gL σ 94) &&& (coF σ ((aI σ 20) (c).toNatClampNeg) 0 (gI σ 103).toInt.toNat).1)) 95) (((aI σ 20) (c).toNatClampNeg)).toNatClampNeg) = 0) from h190), if_neg (show ¬ ((alR σ c) = 0) from h200), if_pos (show (gI (beS (coS σ ((aI σ 20) (c).toNatClampNeg) 0 (gI σ 103).toInt.toNat) ((gL σ 94) &&& (coF σ ((aI σ 20) (c).toNatClampNeg) 0 (gI σ 103).toInt.toNat).1)) 116) = 0 from h205)])
              refine ⟨(gI σ 112), (gI σ 113), ⟨Or.inl, fun q => q.elim id (fun z => absurd z (fun z => z.elim (fun y => by omega) (fun y => by omega)))⟩, ?_, ?_⟩
              · rw [la_id]
                exact (congrArg Prod.fst es).symm
              · rw [la_id]
                exact congrArg (fun z => some (Value.int z)) (congrArg Prod.snd es).symm
            · refine hB _ _ _ _ _ (fun m209 hm209 => ?_)
              dsimp only [ugo, uwp, ust, uct, rfd, BflowStep, BflowStep_693, Nat.beq, lv_args, rlk, rs1, rs2, rdl, rky, rcd, rno, rsw, Value.category, List.filter, List.take, List.drop, List.reverse, List.reverseAux, List.cons_append, List.nil_append, Option.toList, Int.toNat, Int.reduceToNat, if_pos, if_neg, reduceIte, ↓reduceIte, Nat.reduceAdd, Nat.reduceEqDiff, Nat.reduceBEq, beq_self_eq_true, Bool.not_true, Bool.not_false, Bool.and_true, Bool.and_false, Bool.true_and, Bool.false_and, gI_sI, gI_sL, gI_sA, gI_sM, gL_sI, gL_sL, gL_sA, gL_sM, aI_sI, aI_sL, aI_sA, aI_sM, aL_sI, aL_sL, aL_sA, aL_sM, oi_1]; try dsimp only
              refine hB _ _ _ _ _ (fun m210 hm210 => ?_)
              dsimp only [ugo, uwp, ust, uct, rfd, BflowStep, BflowStep_698, Nat.beq, lv_args, rlk, rs1, rs2, rdl, rky, rcd, rno, rsw, Value.category, List.filter, List.take, List.drop, List.reverse, List.reverseAux, List.cons_append, List.nil_append, Option.toList, Int.toNat, Int.reduceToNat, if_pos, if_neg, reduceIte, ↓reduceIte, Nat.reduceAdd, Nat.reduceEqDiff, Nat.reduceBEq, beq_self_eq_true, Bool.not_true, Bool.not_false, Bool.and_true, Bool.and_false, Bool.true_and, Bool.false_and, gI_sI, gI_sL, gI_sA, gI_sM, gL_sI, gL_sL, gL_sA, gL_sM, aI_sI, aI_sL, aI_sA, aI_sM, aL_sI, aL_sL, aL_sA, aL_sM]; try dsimp only
              refine hB _ _ _ _ _ (fun m211 hm211 => ?_)
              dsimp only [ugo, uwp, ust, uct, rfd, BflowStep, BflowStep_1420, Nat.beq, lv_args, rlk, rs1, rs2, rdl, rky, rcd, rno, rsw, Value.category, List.filter, List.take, List.drop, List.reverse, List.reverseAux, List.cons_append, List.nil_append, Option.toList, Int.toNat, Int.reduceToNat, if_pos, if_neg, reduceIte, ↓reduceIte, Nat.reduceAdd, Nat.reduceEqDiff, Nat.reduceBEq, beq_self_eq_true, Bool.not_true, Bool.not_false, Bool.and_true, Bool.and_false, Bool.true_and, Bool.false_and, gI_sI, gI_sL, gI_sA, gI_sM, gL_sI, gL_sL, gL_sA, gL_sM, aI_sI, aI_sL, aI_sA, aI_sM, aL_sI, aL_sL, aL_sA, aL_sM, oi_1]; try dsimp only
              unfold Qv_flowStep
              try dsimp only
              have es : fsS σ c = ((sI (beS (coS σ ((aI σ 20) (c).toNatClampNeg) 0 (gI σ 103).toInt.toNat) ((gL σ 94) &&& (coF σ ((aI σ 20) (c).toNatClampNeg) 0 (gI σ 103).toInt.toNat).1)) 92 1), (c + 1)) := (fs_e31 (by show (aI σ 19 c.toNatClampNeg).toInt = 31; omega)).trans (by unfold fs_31; rw [if_neg (show ¬ (((aI (beS (coS σ ((aI σ 20) (c).toNatClampNeg) 0 (gI σ 103).toInt.toNat) ((gL σ 94) &&& (coF σ ((aI σ 20) (c).toNatClampNeg) 0 (gI σ 103).toInt.toNat).1)) 95) (((aI σ 20) (c).toNatClampNeg)).toNatClampNeg) = 0) from h190), if_neg (show ¬ ((alR σ c) = 0) from h200), if_neg (show ¬ ((gI (beS (coS σ ((aI σ 20) (c).toNatClampNeg) 0 (gI σ 103).toInt.toNat) ((gL σ 94) &&& (coF σ ((aI σ 20) (c).toNatClampNeg) 0 (gI σ 103).toInt.toNat).1)) 116) = 0) from h205)])
              refine ⟨(gI σ 112), (gI σ 113), ⟨Or.inl, fun q => q.elim id (fun z => absurd z (fun z => z.elim (fun y => by omega) (fun y => by omega)))⟩, ?_, ?_⟩
              · rw [la_id]
                exact (congrArg Prod.fst es).symm
              · rw [la_id]
                exact congrArg (fun z => some (Value.int z)) (congrArg Prod.snd es).symm
      have c185 : ¬ (aI σ 19 c.toNatClampNeg).toInt = 31 := fun q => h185 ((rfl : (aI σ 19 c.toNatClampNeg).toInt = (aI σ 19 c.toNatClampNeg).toInt).trans q)
      refine ⟨fun h212 => ?_, fun h212 => ?_⟩
      · have c212 : (aI σ 19 c.toNatClampNeg).toInt = 32 := (rfl : (aI σ 19 c.toNatClampNeg).toInt = (aI σ 19 c.toNatClampNeg).toInt).symm.trans h212
        refine hB _ _ _ _ _ (fun m213 hm213 => ?_)
        dsimp only [ugo, uwp, ust, uct, rfd, BflowStep, BflowStep_1420, Nat.beq, lv_args, rlk, rs1, rs2, rdl, rky, rcd, rno, rsw, Value.category, List.filter, List.take, List.drop, List.reverse, List.reverseAux, List.cons_append, List.nil_append, Option.toList, Int.toNat, Int.reduceToNat, if_pos, if_neg, reduceIte, ↓reduceIte, Nat.reduceAdd, Nat.reduceEqDiff, Nat.reduceBEq, beq_self_eq_true, Bool.not_true, Bool.not_false, Bool.and_true, Bool.and_false, Bool.true_and, Bool.false_and, gI_sI, gI_sL, gI_sA, gI_sM, gL_sI, gL_sL, gL_sA, gL_sM, aI_sI, aI_sL, aI_sA, aI_sM, aL_sI, aL_sL, aL_sA, aL_sM, oi_1]; try dsimp only
        unfold Qv_flowStep
        try dsimp only
        have es : fsS σ c = (σ, (c + 1)) := fs_d (by show ¬ ((20 ≤ (aI σ 19 c.toNatClampNeg).toInt ∧ (aI σ 19 c.toNatClampNeg).toInt ≤ 25) ∨ (aI σ 19 c.toNatClampNeg).toInt = 27 ∨ (aI σ 19 c.toNatClampNeg).toInt = 28 ∨ (aI σ 19 c.toNatClampNeg).toInt = 30 ∨ (aI σ 19 c.toNatClampNeg).toInt = 31 ∨ (aI σ 19 c.toNatClampNeg).toInt = 33 ∨ (aI σ 19 c.toNatClampNeg).toInt = 35 ∨ (aI σ 19 c.toNatClampNeg).toInt = 36 ∨ (aI σ 19 c.toNatClampNeg).toInt = 37 ∨ (aI σ 19 c.toNatClampNeg).toInt = 38 ∨ (aI σ 19 c.toNatClampNeg).toInt = 39 ∨ (aI σ 19 c.toNatClampNeg).toInt = 40 ∨ (aI σ 19 c.toNatClampNeg).toInt = 42 ∨ (aI σ 19 c.toNatClampNeg).toInt = 45 ∨ (aI σ 19 c.toNatClampNeg).toInt = 46 ∨ (aI σ 19 c.toNatClampNeg).toInt = 47 ∨ (aI σ 19 c.toNatClampNeg).toInt = 48 ∨ (aI σ 19 c.toNatClampNeg).toInt = 49 ∨ (aI σ 19 c.toNatClampNeg).toInt = 50 ∨ (aI σ 19 c.toNatClampNeg).toInt = 51 ∨ (aI σ 19 c.toNatClampNeg).toInt = 52 ∨ (aI σ 19 c.toNatClampNeg).toInt = 53); omega)
        refine ⟨(gI σ 112), (gI σ 113), ⟨Or.inl, fun q => q.elim id (fun z => absurd z (fun z => z.elim (fun y => by omega) (fun y => by omega)))⟩, ?_, ?_⟩
        · rw [la_id]
          exact (congrArg Prod.fst es).symm
        · rw [la_id]
          exact congrArg (fun z => some (Value.int z)) (congrArg Prod.snd es).symm
      have c212 : ¬ (aI σ 19 c.toNatClampNeg).toInt = 32 := fun q => h212 ((rfl : (aI σ 19 c.toNatClampNeg).toInt = (aI σ 19 c.toNatClampNeg).toInt).trans q)
      refine ⟨fun h214 => ?_, fun h214 => ?_⟩
      · have c214 : (aI σ 19 c.toNatClampNeg).toInt = 33 := (rfl : (aI σ 19 c.toNatClampNeg).toInt = (aI σ 19 c.toNatClampNeg).toInt).symm.trans h214
        refine hB _ _ _ _ _ (fun m215 hm215 => ?_)
        dsimp only [ugo, uwp, ust, uct, rfd, BflowStep, BflowStep_704, Nat.beq, lv_args, rlk, rs1, rs2, rdl, rky, rcd, rno, rsw, Value.category, List.filter, List.take, List.drop, List.reverse, List.reverseAux, List.cons_append, List.nil_append, Option.toList, Int.toNat, Int.reduceToNat, if_pos, if_neg, reduceIte, ↓reduceIte, Nat.reduceAdd, Nat.reduceEqDiff, Nat.reduceBEq, beq_self_eq_true, Bool.not_true, Bool.not_false, Bool.and_true, Bool.and_false, Bool.true_and, Bool.false_and, gI_sI, gI_sL, gI_sA, gI_sM, gL_sI, gL_sL, gL_sA, gL_sM, aI_sI, aI_sL, aI_sA, aI_sM, aL_sI, aL_sL, aL_sA, aL_sM]; try dsimp only
        intro p216
        refine ⟨fun h217 => ?_, fun h217 => ?_⟩
        · refine hB _ _ _ _ _ (fun m218 hm218 => ?_)
          dsimp only [ugo, uwp, ust, uct, rfd, BflowStep, BflowStep_720, Nat.beq, lv_args, rlk, rs1, rs2, rdl, rky, rcd, rno, rsw, Value.category, List.filter, List.take, List.drop, List.reverse, List.reverseAux, List.cons_append, List.nil_append, Option.toList, Int.toNat, Int.reduceToNat, if_pos, if_neg, reduceIte, ↓reduceIte, Nat.reduceAdd, Nat.reduceEqDiff, Nat.reduceBEq, beq_self_eq_true, Bool.not_true, Bool.not_false, Bool.and_true, Bool.and_false, Bool.true_and, Bool.false_and, gI_sI, gI_sL, gI_sA, gI_sM, gL_sI, gL_sL, gL_sA, gL_sM, aI_sI, aI_sL, aI_sA, aI_sM, aL_sI, aL_sL, aL_sA, aL_sM]; try dsimp only
          intro p219
          intro p220
          refine ⟨trivial, fun w221 τ221 hq221 => ?_⟩
          obtain ⟨rfl, rfl⟩ := hq221 trivial
          dsimp only [Option.toList, List.cons_append, List.nil_append, Nat.beq, gI_sI, gI_sL, gI_sA, gI_sM, gL_sI, gL_sL, gL_sA, gL_sM, aI_sI, aI_sL, aI_sA, aI_sM, aL_sI, aL_sL, aL_sA, aL_sM]
          refine ⟨fun h222 => ?_, fun h222 => ?_⟩
          · refine hB _ _ _ _ _ (fun m223 hm223 => ?_)
            dsimp only [ugo, uwp, ust, uct, rfd, BflowStep, BflowStep_756, Nat.beq, lv_args, rlk, rs1, rs2, rdl, rky, rcd, rno, rsw, Value.category, List.filter, List.take, List.drop, List.reverse, List.reverseAux, List.cons_append, List.nil_append, Option.toList, Int.toNat, Int.reduceToNat, if_pos, if_neg, reduceIte, ↓reduceIte, Nat.reduceAdd, Nat.reduceEqDiff, Nat.reduceBEq, beq_self_eq_true, Bool.not_true, Bool.not_false, Bool.and_true, Bool.and_false, Bool.true_and, Bool.false_and, gI_sI, gI_sL, gI_sA, gI_sM, gL_sI, gL_sL, gL_sA, gL_sM, aI_sI, aI_sL, aI_sA, aI_sM, aL_sI, aL_sL, aL_sA, aL_sM, oi_0]; try dsimp only
            refine hB _ _ _ _ _ (fun m224 hm224 => ?_)
            dsimp only [ugo, uwp, ust, uct, rfd, BflowStep, BflowStep_757, Nat.beq, lv_args, rlk, rs1, rs2, rdl, rky, rcd, rno, rsw, Value.category, List.filter, List.take, List.drop, List.reverse, List.reverseAux, List.cons_append, List.nil_append, Option.toList, Int.toNat, Int.reduceToNat, if_pos, if_neg, reduceIte, ↓reduceIte, Nat.reduceAdd, Nat.reduceEqDiff, Nat.reduceBEq, beq_self_eq_true, Bool.not_true, Bool.not_false, Bool.and_true, Bool.and_false, Bool.true_and, Bool.false_and, gI_sI, gI_sL, gI_sA, gI_sM, gL_sI, gL_sL, gL_sA, gL_sM, aI_sI, aI_sL, aI_sA, aI_sM, aL_sI, aL_sL, aL_sA, aL_sM, oi_0]; try dsimp only
            intro p225
            intro p226
            unfold Qv_flowStep
            try dsimp only
            have es : fsS σ c = ((sA (sI (beS (sA (sM σ 98 (vp_updL (aL σ 98) (((aI σ 20) (c).toNatClampNeg)).toNatClampNeg (gL σ 94))) 97 (upd (aI σ 97) (((aI σ 20) (c).toNatClampNeg)).toNatClampNeg (alR σ c))) (gL σ 93)) 92 0) 95 (upd (aI (beS (sA (sM σ 98 (vp_updL (aL σ 98) (((aI σ 20) (c).toNatClampNeg)).toNatClampNeg (gL σ 94))) 97 (upd (aI σ 97) (((aI σ 20) (c).toNatClampNeg)).toNatClampNeg (alR σ c))) (gL σ 93)) 95) (((aI σ 20) (c).toNatClampNeg)).toNatClampNeg 0)), ((aI (beS (sA (sM σ 98 (vp_updL (aL σ 98) (((aI σ 20) (c).toNatClampNeg)).toNatClampNeg (gL σ 94))) 97 (upd (aI σ 97) (((aI σ 20) (c).toNatClampNeg)).toNatClampNeg (alR σ c))) (gL σ 93)) 54) (((aI σ 20) (c).toNatClampNeg)).toNatClampNeg)) := (fs_e33 (by show (aI σ 19 c.toNatClampNeg).toInt = 33; omega)).trans (by unfold fs_33; rw [if_neg (show ¬ (((aI σ 21) (c).toNatClampNeg) = 0) from h217), if_neg (show ¬ ((neR σ c) = 0) from h222)])
            refine ⟨(gI σ 112), (gI σ 113), ⟨Or.inl, fun q => q.elim id (fun z => absurd z (fun z => z.elim (fun y => by omega) (fun y => by omega)))⟩, ?_, ?_⟩
            · rw [la_id]
              exact (congrArg Prod.fst es).symm
            · rw [la_id]
              exact congrArg (fun z => some (Value.int z)) (congrArg Prod.snd es).symm
          · refine hB _ _ _ _ _ (fun m227 hm227 => ?_)
            dsimp only [ugo, uwp, ust, uct, rfd, BflowStep, BflowStep_752, Nat.beq, lv_args, rlk, rs1, rs2, rdl, rky, rcd, rno, rsw, Value.category, List.filter, List.take, List.drop, List.reverse, List.reverseAux, List.cons_append, List.nil_append, Option.toList, Int.toNat, Int.reduceToNat, if_pos, if_neg, reduceIte, ↓reduceIte, Nat.reduceAdd, Nat.reduceEqDiff, Nat.reduceBEq, beq_self_eq_true, Bool.not_true, Bool.not_false, Bool.and_true, Bool.and_false, Bool.true_and, Bool.false_and, gI_sI, gI_sL, gI_sA, gI_sM, gL_sI, gL_sL, gL_sA, gL_sM, aI_sI, aI_sL, aI_sA, aI_sM, aL_sI, aL_sL, aL_sA, aL_sM, oi_1]; try dsimp only
            refine hB _ _ _ _ _ (fun m228 hm228 => ?_)
            dsimp only [ugo, uwp, ust, uct, rfd, BflowStep, BflowStep_757, Nat.beq, lv_args, rlk, rs1, rs2, rdl, rky, rcd, rno, rsw, Value.category, List.filter, List.take, List.drop, List.reverse, List.reverseAux, List.cons_append, List.nil_append, Option.toList, Int.toNat, Int.reduceToNat, if_pos, if_neg, reduceIte, ↓reduceIte, Nat.reduceAdd, Nat.reduceEqDiff, Nat.reduceBEq, beq_self_eq_true, Bool.not_true, Bool.not_false, Bool.and_true, Bool.and_false, Bool.true_and, Bool.false_and, gI_sI, gI_sL, gI_sA, gI_sM, gL_sI, gL_sL, gL_sA, gL_sM, aI_sI, aI_sL, aI_sA, aI_sM, aL_sI, aL_sL, aL_sA, aL_sM, oi_0]; try dsimp only
            intro p229
            intro p230
            unfold Qv_flowStep
            try dsimp only
            have es : fsS σ c = ((sA (sI (beS (sA (sM σ 98 (vp_updL (aL σ 98) (((aI σ 20) (c).toNatClampNeg)).toNatClampNeg (gL σ 94))) 97 (upd (aI σ 97) (((aI σ 20) (c).toNatClampNeg)).toNatClampNeg (alR σ c))) (gL σ 93)) 92 1) 95 (upd (aI (beS (sA (sM σ 98 (vp_updL (aL σ 98) (((aI σ 20) (c).toNatClampNeg)).toNatClampNeg (gL σ 94))) 97 (upd (aI σ 97) (((aI σ 20) (c).toNatClampNeg)).toNatClampNeg (alR σ c))) (gL σ 93)) 95) (((aI σ 20) (c).toNatClampNeg)).toNatClampNeg 0)), ((aI (beS (sA (sM σ 98 (vp_updL (aL σ 98) (((aI σ 20) (c).toNatClampNeg)).toNatClampNeg (gL σ 94))) 97 (upd (aI σ 97) (((aI σ 20) (c).toNatClampNeg)).toNatClampNeg (alR σ c))) (gL σ 93)) 54) (((aI σ 20) (c).toNatClampNeg)).toNatClampNeg)) := (fs_e33 (by show (aI σ 19 c.toNatClampNeg).toInt = 33; omega)).trans (by unfold fs_33; rw [if_neg (show ¬ (((aI σ 21) (c).toNatClampNeg) = 0) from h217), if_pos (show (neR σ c) = 0 from h222)])
            refine ⟨(gI σ 112), (gI σ 113), ⟨Or.inl, fun q => q.elim id (fun z => absurd z (fun z => z.elim (fun y => by omega) (fun y => by omega)))⟩, ?_, ?_⟩
            · rw [la_id]
              exact (congrArg Prod.fst es).symm
            · rw [la_id]
              exact congrArg (fun z => some (Value.int z)) (congrArg Prod.snd es).symm
        · refine hB _ _ _ _ _ (fun m231 hm231 => ?_)
          dsimp only [ugo, uwp, ust, uct, rfd, BflowStep, BflowStep_713, Nat.beq, lv_args, rlk, rs1, rs2, rdl, rky, rcd, rno, rsw, Value.category, List.filter, List.take, List.drop, List.reverse, List.reverseAux, List.cons_append, List.nil_append, Option.toList, Int.toNat, Int.reduceToNat, if_pos, if_neg, reduceIte, ↓reduceIte, Nat.reduceAdd, Nat.reduceEqDiff, Nat.reduceBEq, beq_self_eq_true, Bool.not_true, Bool.not_false, Bool.and_true, Bool.and_false, Bool.true_and, Bool.false_and, gI_sI, gI_sL, gI_sA, gI_sM, gL_sI, gL_sL, gL_sA, gL_sM, aI_sI, aI_sL, aI_sA, aI_sM, aL_sI, aL_sL, aL_sA, aL_sM]; try dsimp only
          refine hB _ _ _ _ _ (fun m232 hm232 => ?_)
          dsimp only [ugo, uwp, ust, uct, rfd, BflowStep, BflowStep_720, Nat.beq, lv_args, rlk, rs1, rs2, rdl, rky, rcd, rno, rsw, Value.category, List.filter, List.take, List.drop, List.reverse, List.reverseAux, List.cons_append, List.nil_append, Option.toList, Int.toNat, Int.reduceToNat, if_pos, if_neg, reduceIte, ↓reduceIte, Nat.reduceAdd, Nat.reduceEqDiff, Nat.reduceBEq, beq_self_eq_true, Bool.not_true, Bool.not_false, Bool.and_true, Bool.and_false, Bool.true_and, Bool.false_and, gI_sI, gI_sL, gI_sA, gI_sM, gL_sI, gL_sL, gL_sA, gL_sM, aI_sI, aI_sL, aI_sA, aI_sM, aL_sI, aL_sL, aL_sA, aL_sM]; try dsimp only
          intro p233
          intro p234
          refine ⟨trivial, fun w235 τ235 hq235 => ?_⟩
          obtain ⟨rfl, rfl⟩ := hq235 trivial
          dsimp only [Option.toList, List.cons_append, List.nil_append, Nat.beq, gI_sI, gI_sL, gI_sA, gI_sM, gL_sI, gL_sL, gL_sA, gL_sM, aI_sI, aI_sL, aI_sA, aI_sM, aL_sI, aL_sL, aL_sA, aL_sM]
          refine ⟨fun h236 => ?_, fun h236 => ?_⟩
          · refine hB _ _ _ _ _ (fun m237 hm237 => ?_)
            dsimp only [ugo, uwp, ust, uct, rfd, BflowStep, BflowStep_756, Nat.beq, lv_args, rlk, rs1, rs2, rdl, rky, rcd, rno, rsw, Value.category, List.filter, List.take, List.drop, List.reverse, List.reverseAux, List.cons_append, List.nil_append, Option.toList, Int.toNat, Int.reduceToNat, if_pos, if_neg, reduceIte, ↓reduceIte, Nat.reduceAdd, Nat.reduceEqDiff, Nat.reduceBEq, beq_self_eq_true, Bool.not_true, Bool.not_false, Bool.and_true, Bool.and_false, Bool.true_and, Bool.false_and, gI_sI, gI_sL, gI_sA, gI_sM, gL_sI, gL_sL, gL_sA, gL_sM, aI_sI, aI_sL, aI_sA, aI_sM, aL_sI, aL_sL, aL_sA, aL_sM, oi_0]; try dsimp only
            refine hB _ _ _ _ _ (fun m238 hm238 => ?_)
            dsimp only [ugo, uwp, ust, uct, rfd, BflowStep, BflowStep_757, Nat.beq, lv_args, rlk, rs1, rs2, rdl, rky, rcd, rno, rsw, Value.category, List.filter, List.take, List.drop, List.reverse, List.reverseAux, List.cons_append, List.nil_append, Option.toList, Int.toNat, Int.reduceToNat, if_pos, if_neg, reduceIte, ↓reduceIte, Nat.reduceAdd, Nat.reduceEqDiff, Nat.reduceBEq, beq_self_eq_true, Bool.not_true, Bool.not_false, Bool.and_true, Bool.and_false, Bool.true_and, Bool.false_and, gI_sI, gI_sL, gI_sA, gI_sM, gL_sI, gL_sL, gL_sA, gL_sM, aI_sI, aI_sL, aI_sA, aI_sM, aL_sI, aL_sL, aL_sA, aL_sM, oi_0]; try dsimp only
            intro p239
            intro p240
            unfold Qv_flowStep
            try dsimp only
            have es : fsS σ c = ((sA (sI (beS (sA (sM (sL σ 94 (Int64.ofInt (-1))) 98 (vp_updL (aL σ 98) (((aI σ 20) (c).toNatClampNeg)).toNatClampNeg (Int64.ofInt (-1)))) 97 (upd (aI σ 97) (((aI σ 20) (c).toNatClampNeg)).toNatClampNeg (alR σ c))) (gL σ 93)) 92 0) 95 (upd (aI (beS (sA (sM (sL σ 94 (Int64.ofInt (-1))) 98 (vp_updL (aL σ 98) (((aI σ 20) (c).toNatClampNeg)).toNatClampNeg (Int64.ofInt (-1)))) 97 (upd (aI σ 97) (((aI σ 20) (c).toNatClampNeg)).toNatClampNeg (alR σ c))) (gL σ 93)) 95) (((aI σ 20) (c).toNatClampNeg)).toNatClampNeg 0)), ((aI (beS (sA (sM (sL σ 94 (Int64.ofInt (-1))) 98 (vp_updL (aL σ 98) (((aI σ 20) (c).toNatClampNeg)).toNatClampNeg (Int64.ofInt (-1)))) 97 (upd (aI σ 97) (((aI σ 20) (c).toNatClampNeg)).toNatClampNeg (alR σ c))) (gL σ 93)) 54) (((aI σ 20) (c).toNatClampNeg)).toNatClampNeg)) := (fs_e33 (by show (aI σ 19 c.toNatClampNeg).toInt = 33; omega)).trans (by unfold fs_33; rw [if_pos (show ((aI σ 21) (c).toNatClampNeg) = 0 from h217), if_neg (show ¬ ((neR σ c) = 0) from h236)])
            refine ⟨(gI σ 112), (gI σ 113), ⟨Or.inl, fun q => q.elim id (fun z => absurd z (fun z => z.elim (fun y => by omega) (fun y => by omega)))⟩, ?_, ?_⟩
            · rw [la_id]
              exact (congrArg Prod.fst es).symm
            · rw [la_id]
              exact congrArg (fun z => some (Value.int z)) (congrArg Prod.snd es).symm
          · refine hB _ _ _ _ _ (fun m241 hm241 => ?_)
            dsimp only [ugo, uwp, ust, uct, rfd, BflowStep, BflowStep_752, Nat.beq, lv_args, rlk, rs1, rs2, rdl, rky, rcd, rno, rsw, Value.category, List.filter, List.take, List.drop, List.reverse, List.reverseAux, List.cons_append, List.nil_append, Option.toList, Int.toNat, Int.reduceToNat, if_pos, if_neg, reduceIte, ↓reduceIte, Nat.reduceAdd, Nat.reduceEqDiff, Nat.reduceBEq, beq_self_eq_true, Bool.not_true, Bool.not_false, Bool.and_true, Bool.and_false, Bool.true_and, Bool.false_and, gI_sI, gI_sL, gI_sA, gI_sM, gL_sI, gL_sL, gL_sA, gL_sM, aI_sI, aI_sL, aI_sA, aI_sM, aL_sI, aL_sL, aL_sA, aL_sM, oi_1]; try dsimp only
            refine hB _ _ _ _ _ (fun m242 hm242 => ?_)
            dsimp only [ugo, uwp, ust, uct, rfd, BflowStep, BflowStep_757, Nat.beq, lv_args, rlk, rs1, rs2, rdl, rky, rcd, rno, rsw, Value.category, List.filter, List.take, List.drop, List.reverse, List.reverseAux, List.cons_append, List.nil_append, Option.toList, Int.toNat, Int.reduceToNat, if_pos, if_neg, reduceIte, ↓reduceIte, Nat.reduceAdd, Nat.reduceEqDiff, Nat.reduceBEq, beq_self_eq_true, Bool.not_true, Bool.not_false, Bool.and_true, Bool.and_false, Bool.true_and, Bool.false_and, gI_sI, gI_sL, gI_sA, gI_sM, gL_sI, gL_sL, gL_sA, gL_sM, aI_sI, aI_sL, aI_sA, aI_sM, aL_sI, aL_sL, aL_sA, aL_sM, oi_0]; try dsimp only
            intro p243
            intro p244
            unfold Qv_flowStep
            try dsimp only
            have es : fsS σ c = ((sA (sI (beS (sA (sM (sL σ 94 (Int64.ofInt (-1))) 98 (vp_updL (aL σ 98) (((aI σ 20) (c).toNatClampNeg)).toNatClampNeg (Int64.ofInt (-1)))) 97 (upd (aI σ 97) (((aI σ 20) (c).toNatClampNeg)).toNatClampNeg (alR σ c))) (gL σ 93)) 92 1) 95 (upd (aI (beS (sA (sM (sL σ 94 (Int64.ofInt (-1))) 98 (vp_updL (aL σ 98) (((aI σ 20) (c).toNatClampNeg)).toNatClampNeg (Int64.ofInt (-1)))) 97 (upd (aI σ 97) (((aI σ 20) (c).toNatClampNeg)).toNatClampNeg (alR σ c))) (gL σ 93)) 95) (((aI σ 20) (c).toNatClampNeg)).toNatClampNeg 0)), ((aI (beS (sA (sM (sL σ 94 (Int64.ofInt (-1))) 98 (vp_updL (aL σ 98) (((aI σ 20) (c).toNatClampNeg)).toNatClampNeg (Int64.ofInt (-1)))) 97 (upd (aI σ 97) (((aI σ 20) (c).toNatClampNeg)).toNatClampNeg (alR σ c))) (gL σ 93)) 54) (((aI σ 20) (c).toNatClampNeg)).toNatClampNeg)) := (fs_e33 (by show (aI σ 19 c.toNatClampNeg).toInt = 33; omega)).trans (by unfold fs_33; rw [if_pos (show ((aI σ 21) (c).toNatClampNeg) = 0 from h217), if_pos (show (neR σ c) = 0 from h236)])
            refine ⟨(gI σ 112), (gI σ 113), ⟨Or.inl, fun q => q.elim id (fun z => absurd z (fun z => z.elim (fun y => by omega) (fun y => by omega)))⟩, ?_, ?_⟩
            · rw [la_id]
              exact (congrArg Prod.fst es).symm
            · rw [la_id]
              exact congrArg (fun z => some (Value.int z)) (congrArg Prod.snd es).symm
      have c214 : ¬ (aI σ 19 c.toNatClampNeg).toInt = 33 := fun q => h214 ((rfl : (aI σ 19 c.toNatClampNeg).toInt = (aI σ 19 c.toNatClampNeg).toInt).trans q)
      refine ⟨fun h245 => ?_, fun h245 => ?_⟩
      · have c245 : (aI σ 19 c.toNatClampNeg).toInt = 34 := (rfl : (aI σ 19 c.toNatClampNeg).toInt = (aI σ 19 c.toNatClampNeg).toInt).symm.trans h245
        refine hB _ _ _ _ _ (fun m246 hm246 => ?_)
        dsimp only [ugo, uwp, ust, uct, rfd, BflowStep, BflowStep_1420, Nat.beq, lv_args, rlk, rs1, rs2, rdl, rky, rcd, rno, rsw, Value.category, List.filter, List.take, List.drop, List.reverse, List.reverseAux, List.cons_append, List.nil_append, Option.toList, Int.toNat, Int.reduceToNat, if_pos, if_neg, reduceIte, ↓reduceIte, Nat.reduceAdd, Nat.reduceEqDiff, Nat.reduceBEq, beq_self_eq_true, Bool.not_true, Bool.not_false, Bool.and_true, Bool.and_false, Bool.true_and, Bool.false_and, gI_sI, gI_sL, gI_sA, gI_sM, gL_sI, gL_sL, gL_sA, gL_sM, aI_sI, aI_sL, aI_sA, aI_sM, aL_sI, aL_sL, aL_sA, aL_sM, oi_1]; try dsimp only
        unfold Qv_flowStep
        try dsimp only
        have es : fsS σ c = (σ, (c + 1)) := fs_d (by show ¬ ((20 ≤ (aI σ 19 c.toNatClampNeg).toInt ∧ (aI σ 19 c.toNatClampNeg).toInt ≤ 25) ∨ (aI σ 19 c.toNatClampNeg).toInt = 27 ∨ (aI σ 19 c.toNatClampNeg).toInt = 28 ∨ (aI σ 19 c.toNatClampNeg).toInt = 30 ∨ (aI σ 19 c.toNatClampNeg).toInt = 31 ∨ (aI σ 19 c.toNatClampNeg).toInt = 33 ∨ (aI σ 19 c.toNatClampNeg).toInt = 35 ∨ (aI σ 19 c.toNatClampNeg).toInt = 36 ∨ (aI σ 19 c.toNatClampNeg).toInt = 37 ∨ (aI σ 19 c.toNatClampNeg).toInt = 38 ∨ (aI σ 19 c.toNatClampNeg).toInt = 39 ∨ (aI σ 19 c.toNatClampNeg).toInt = 40 ∨ (aI σ 19 c.toNatClampNeg).toInt = 42 ∨ (aI σ 19 c.toNatClampNeg).toInt = 45 ∨ (aI σ 19 c.toNatClampNeg).toInt = 46 ∨ (aI σ 19 c.toNatClampNeg).toInt = 47 ∨ (aI σ 19 c.toNatClampNeg).toInt = 48 ∨ (aI σ 19 c.toNatClampNeg).toInt = 49 ∨ (aI σ 19 c.toNatClampNeg).toInt = 50 ∨ (aI σ 19 c.toNatClampNeg).toInt = 51 ∨ (aI σ 19 c.toNatClampNeg).toInt = 52 ∨ (aI σ 19 c.toNatClampNeg).toInt = 53); omega)
        refine ⟨(gI σ 112), (gI σ 113), ⟨Or.inl, fun q => q.elim id (fun z => absurd z (fun z => z.elim (fun y => by omega) (fun y => by omega)))⟩, ?_, ?_⟩
        · rw [la_id]
          exact (congrArg Prod.fst es).symm
        · rw [la_id]
          exact congrArg (fun z => some (Value.int z)) (congrArg Prod.snd es).symm
      have c245 : ¬ (aI σ 19 c.toNatClampNeg).toInt = 34 := fun q => h245 ((rfl : (aI σ 19 c.toNatClampNeg).toInt = (aI σ 19 c.toNatClampNeg).toInt).trans q)
      refine ⟨fun h247 => ?_, fun h247 => ?_⟩
      · have c247 : (aI σ 19 c.toNatClampNeg).toInt = 35 := (rfl : (aI σ 19 c.toNatClampNeg).toInt = (aI σ 19 c.toNatClampNeg).toInt).symm.trans h247
        refine hB _ _ _ _ _ (fun m248 hm248 => ?_)
        dsimp only [ugo, uwp, ust, uct, rfd, BflowStep, BflowStep_774, Nat.beq, lv_args, rlk, rs1, rs2, rdl, rky, rcd, rno, rsw, Value.category, List.filter, List.take, List.drop, List.reverse, List.reverseAux, List.cons_append, List.nil_append, Option.toList, Int.toNat, Int.reduceToNat, if_pos, if_neg, reduceIte, ↓reduceIte, Nat.reduceAdd, Nat.reduceEqDiff, Nat.reduceBEq, beq_self_eq_true, Bool.not_true, Bool.not_false, Bool.and_true, Bool.and_false, Bool.true_and, Bool.false_and, gI_sI, gI_sL, gI_sA, gI_sM, gL_sI, gL_sL, gL_sA, gL_sM, aI_sI, aI_sL, aI_sA, aI_sM, aL_sI, aL_sL, aL_sA, aL_sM]; try dsimp only
        intro p249
        refine ⟨fun h250 => ?_, fun h250 => ?_⟩
        · refine hB _ _ _ _ _ (fun m251 hm251 => ?_)
          dsimp only [ugo, uwp, ust, uct, rfd, BflowStep, BflowStep_786, Nat.beq, lv_args, rlk, rs1, rs2, rdl, rky, rcd, rno, rsw, Value.category, List.filter, List.take, List.drop, List.reverse, List.reverseAux, List.cons_append, List.nil_append, Option.toList, Int.toNat, Int.reduceToNat, if_pos, if_neg, reduceIte, ↓reduceIte, Nat.reduceAdd, Nat.reduceEqDiff, Nat.reduceBEq, beq_self_eq_true, Bool.not_true, Bool.not_false, Bool.and_true, Bool.and_false, Bool.true_and, Bool.false_and, gI_sI, gI_sL, gI_sA, gI_sM, gL_sI, gL_sL, gL_sA, gL_sM, aI_sI, aI_sL, aI_sA, aI_sM, aL_sI, aL_sL, aL_sA, aL_sM, oi_0]; try dsimp only
          intro p252
          refine ⟨trivial, fun w253 τ253 hq253 => ?_⟩
          obtain ⟨rfl, _, rfl, rfl⟩ := hq253 trivial
          dsimp only [Option.toList, List.cons_append, List.nil_append, Nat.beq, gI_sI, gI_sL, gI_sA, gI_sM, gL_sI, gL_sL, gL_sA, gL_sM, aI_sI, aI_sL, aI_sA, aI_sM, aL_sI, aL_sL, aL_sA, aL_sM]
          refine ⟨trivial, fun w254 τ254 hq254 => ?_⟩
          obtain ⟨rfl, rfl⟩ := hq254 trivial
          dsimp only [Option.toList, List.cons_append, List.nil_append, Nat.beq, gI_sI, gI_sL, gI_sA, gI_sM, gL_sI, gL_sL, gL_sA, gL_sM, aI_sI, aI_sL, aI_sA, aI_sM, aL_sI, aL_sL, aL_sA, aL_sM]
          intro p255
          refine ⟨fun h256 => ?_, fun h256 => ?_⟩
          · refine hB _ _ _ _ _ (fun m257 hm257 => ?_)
            dsimp only [ugo, uwp, ust, uct, rfd, BflowStep, BflowStep_820, Nat.beq, lv_args, rlk, rs1, rs2, rdl, rky, rcd, rno, rsw, Value.category, List.filter, List.take, List.drop, List.reverse, List.reverseAux, List.cons_append, List.nil_append, Option.toList, Int.toNat, Int.reduceToNat, if_pos, if_neg, reduceIte, ↓reduceIte, Nat.reduceAdd, Nat.reduceEqDiff, Nat.reduceBEq, beq_self_eq_true, Bool.not_true, Bool.not_false, Bool.and_true, Bool.and_false, Bool.true_and, Bool.false_and, gI_sI, gI_sL, gI_sA, gI_sM, gL_sI, gL_sL, gL_sA, gL_sM, aI_sI, aI_sL, aI_sA, aI_sM, aL_sI, aL_sL, aL_sA, aL_sM, oi_1]; try dsimp only
            refine hB _ _ _ _ _ (fun m258 hm258 => ?_)
            dsimp only [ugo, uwp, ust, uct, rfd, BflowStep, BflowStep_825, Nat.beq, lv_args, rlk, rs1, rs2, rdl, rky, rcd, rno, rsw, Value.category, List.filter, List.take, List.drop, List.reverse, List.reverseAux, List.cons_append, List.nil_append, Option.toList, Int.toNat, Int.reduceToNat, if_pos, if_neg, reduceIte, ↓reduceIte, Nat.reduceAdd, Nat.reduceEqDiff, Nat.reduceBEq, beq_self_eq_true, Bool.not_true, Bool.not_false, Bool.and_true, Bool.and_false, Bool.true_and, Bool.false_and, gI_sI, gI_sL, gI_sA, gI_sM, gL_sI, gL_sL, gL_sA, gL_sM, aI_sI, aI_sL, aI_sA, aI_sM, aL_sI, aL_sL, aL_sA, aL_sM, oi_1]; try dsimp only
            intro p259
            unfold Qv_flowStep
            try dsimp only
            have es : fsS σ c = ((sI (beS (coS σ ((aI σ 20) (c).toNatClampNeg) 0 (gI σ 103).toInt.toNat) (((aL σ 98) (((aI σ 20) (c).toNatClampNeg)).toNatClampNeg) &&& (coF σ ((aI σ 20) (c).toNatClampNeg) 0 (gI σ 103).toInt.toNat).1)) 92 1), (((aI (beS (coS σ ((aI σ 20) (c).toNatClampNeg) 0 (gI σ 103).toInt.toNat) (((aL σ 98) (((aI σ 20) (c).toNatClampNeg)).toNatClampNeg) &&& (coF σ ((aI σ 20) (c).toNatClampNeg) 0 (gI σ 103).toInt.toNat).1)) 55) (((aI σ 20) (c).toNatClampNeg)).toNatClampNeg) + 1)) := (fs_e35 (by show (aI σ 19 c.toNatClampNeg).toInt = 35; omega)).trans (by unfold fs_35; rw [if_neg (show ¬ (((aI σ 95) (((aI σ 20) (c).toNatClampNeg)).toNatClampNeg) = 0) from h250), if_pos (show ((aI (beS (coS σ ((aI σ 20) (c).toNatClampNeg) 0 (gI σ 103).toInt.toNat) (((aL σ 98) (((aI σ 20) (c).toNatClampNeg)).toNatClampNeg) &&& (coF σ ((aI σ 20) (c).toNatClampNeg) 0 (gI σ 103).toInt.toNat).1)) 97) (((aI σ 20) (c).toNatClampNeg)).toNatClampNeg) = 0 from h256)])
            refine ⟨(gI σ 112), (gI σ 113), ⟨Or.inl, fun q => q.elim id (fun z => absurd z (fun z => z.elim (fun y => by omega) (fun y => by omega)))⟩, ?_, ?_⟩
            · rw [la_id]
              exact (congrArg Prod.fst es).symm
            · rw [la_id]
              exact congrArg (fun z => some (Value.int z)) (congrArg Prod.snd es).symm
          · refine hB _ _ _ _ _ (fun m260 hm260 => ?_)
            dsimp only [ugo, uwp, ust, uct, rfd, BflowStep, BflowStep_813, Nat.beq, lv_args, rlk, rs1, rs2, rdl, rky, rcd, rno, rsw, Value.category, List.filter, List.take, List.drop, List.reverse, List.reverseAux, List.cons_append, List.nil_append, Option.toList, Int.toNat, Int.reduceToNat, if_pos, if_neg, reduceIte, ↓reduceIte, Nat.reduceAdd, Nat.reduceEqDiff, Nat.reduceBEq, beq_self_eq_true, Bool.not_true, Bool.not_false, Bool.and_true, Bool.and_false, Bool.true_and, Bool.false_and, gI_sI, gI_sL, gI_sA, gI_sM, gL_sI, gL_sL, gL_sA, gL_sM, aI_sI, aI_sL, aI_sA, aI_sM, aL_sI, aL_sL, aL_sA, aL_sM]; try dsimp only
            refine ⟨fun h261 => ?_, fun h261 => ?_⟩
            · refine hB _ _ _ _ _ (fun m262 hm262 => ?_)
              dsimp only [ugo, uwp, ust, uct, rfd, BflowStep, BflowStep_824, Nat.beq, lv_args, rlk, rs1, rs2, rdl, rky, rcd, rno, rsw, Value.category, List.filter, List.take, List.drop, List.reverse, List.reverseAux, List.cons_append, List.nil_append, Option.toList, Int.toNat, Int.reduceToNat, if_pos, if_neg, reduceIte, ↓reduceIte, Nat.reduceAdd, Nat.reduceEqDiff, Nat.reduceBEq, beq_self_eq_true, Bool.not_true, Bool.not_false, Bool.and_true, Bool.and_false, Bool.true_and, Bool.false_and, gI_sI, gI_sL, gI_sA, gI_sM, gL_sI, gL_sL, gL_sA, gL_sM, aI_sI, aI_sL, aI_sA, aI_sM, aL_sI, aL_sL, aL_sA, aL_sM, oi_0]; try dsimp only
              refine hB _ _ _ _ _ (fun m263 hm263 => ?_)
              dsimp only [ugo, uwp, ust, uct, rfd, BflowStep, BflowStep_825, Nat.beq, lv_args, rlk, rs1, rs2, rdl, rky, rcd, rno, rsw, Value.category, List.filter, List.take, List.drop, List.reverse, List.reverseAux, List.cons_append, List.nil_append, Option.toList, Int.toNat, Int.reduceToNat, if_pos, if_neg, reduceIte, ↓reduceIte, Nat.reduceAdd, Nat.reduceEqDiff, Nat.reduceBEq, beq_self_eq_true, Bool.not_true, Bool.not_false, Bool.and_true, Bool.and_false, Bool.true_and, Bool.false_and, gI_sI, gI_sL, gI_sA, gI_sM, gL_sI, gL_sL, gL_sA, gL_sM, aI_sI, aI_sL, aI_sA, aI_sM, aL_sI, aL_sL, aL_sA, aL_sM, oi_1]; try dsimp only
              intro p264
              unfold Qv_flowStep
              try dsimp only
              have es : fsS σ c = ((sI (beS (coS σ ((aI σ 20) (c).toNatClampNeg) 0 (gI σ 103).toInt.toNat) (((aL σ 98) (((aI σ 20) (c).toNatClampNeg)).toNatClampNeg) &&& (coF σ ((aI σ 20) (c).toNatClampNeg) 0 (gI σ 103).toInt.toNat).1)) 92 0), (((aI (beS (coS σ ((aI σ 20) (c).toNatClampNeg) 0 (gI σ 103).toInt.toNat) (((aL σ 98) (((aI σ 20) (c).toNatClampNeg)).toNatClampNeg) &&& (coF σ ((aI σ 20) (c).toNatClampNeg) 0 (gI σ 103).toInt.toNat).1)) 55) (((aI σ 20) (c).toNatClampNeg)).toNatClampNeg) + 1)) := (fs_e35 (by show (aI σ 19 c.toNatClampNeg).toInt = 35; omega)).trans (by unfold fs_35; rw [if_neg (show ¬ (((aI σ 95) (((aI σ 20) (c).toNatClampNeg)).toNatClampNeg) = 0) from h250), if_neg (show ¬ (((aI (beS (coS σ ((aI σ 20) (c).toNatClampNeg) 0 (gI σ 103).toInt.toNat) (((aL σ 98) (((aI σ 20) (c).toNatClampNeg)).toNatClampNeg) &&& (coF σ ((aI σ 20) (c).toNatClampNeg) 0 (gI σ 103).toInt.toNat).1)) 97) (((aI σ 20) (c).toNatClampNeg)).toNatClampNeg) = 0) from h256), if_pos (show (gI (beS (coS σ ((aI σ 20) (c).toNatClampNeg) 0 (gI σ 103).toInt.toNat) (((aL σ 98) (((aI σ 20) (c).toNatClampNeg)).toNatClampNeg) &&& (coF σ ((aI σ 20) (c).toNatClampNeg) 0 (gI σ 103).toInt.toNat).1)) 116) = 0 from h261)])
              refine ⟨(gI σ 112), (gI σ 113), ⟨Or.inl, fun q => q.elim id (fun z => absurd z (fun z => z.elim (fun y => by omega) (fun y => by omega)))⟩, ?_, ?_⟩
              · rw [la_id]
                exact (congrArg Prod.fst es).symm
              · rw [la_id]
                exact congrArg (fun z => some (Value.int z)) (congrArg Prod.snd es).symm
            · refine hB _ _ _ _ _ (fun m265 hm265 => ?_)
              dsimp only [ugo, uwp, ust, uct, rfd, BflowStep, BflowStep_820, Nat.beq, lv_args, rlk, rs1, rs2, rdl, rky, rcd, rno, rsw, Value.category, List.filter, List.take, List.drop, List.reverse, List.reverseAux, List.cons_append, List.nil_append, Option.toList, Int.toNat, Int.reduceToNat, if_pos, if_neg, reduceIte, ↓reduceIte, Nat.reduceAdd, Nat.reduceEqDiff, Nat.reduceBEq, beq_self_eq_true, Bool.not_true, Bool.not_false, Bool.and_true, Bool.and_false, Bool.true_and, Bool.false_and, gI_sI, gI_sL, gI_sA, gI_sM, gL_sI, gL_sL, gL_sA, gL_sM, aI_sI, aI_sL, aI_sA, aI_sM, aL_sI, aL_sL, aL_sA, aL_sM, oi_1]; try dsimp only
              refine hB _ _ _ _ _ (fun m266 hm266 => ?_)
              dsimp only [ugo, uwp, ust, uct, rfd, BflowStep, BflowStep_825, Nat.beq, lv_args, rlk, rs1, rs2, rdl, rky, rcd, rno, rsw, Value.category, List.filter, List.take, List.drop, List.reverse, List.reverseAux, List.cons_append, List.nil_append, Option.toList, Int.toNat, Int.reduceToNat, if_pos, if_neg, reduceIte, ↓reduceIte, Nat.reduceAdd, Nat.reduceEqDiff, Nat.reduceBEq, beq_self_eq_true, Bool.not_true, Bool.not_false, Bool.and_true, Bool.and_false, Bool.true_and, Bool.false_and, gI_sI, gI_sL, gI_sA, gI_sM, gL_sI, gL_sL, gL_sA, gL_sM, aI_sI, aI_sL, aI_sA, aI_sM, aL_sI, aL_sL, aL_sA, aL_sM, oi_1]; try dsimp only
              intro p267
              unfold Qv_flowStep
              try dsimp only
              have es : fsS σ c = ((sI (beS (coS σ ((aI σ 20) (c).toNatClampNeg) 0 (gI σ 103).toInt.toNat) (((aL σ 98) (((aI σ 20) (c).toNatClampNeg)).toNatClampNeg) &&& (coF σ ((aI σ 20) (c).toNatClampNeg) 0 (gI σ 103).toInt.toNat).1)) 92 1), (((aI (beS (coS σ ((aI σ 20) (c).toNatClampNeg) 0 (gI σ 103).toInt.toNat) (((aL σ 98) (((aI σ 20) (c).toNatClampNeg)).toNatClampNeg) &&& (coF σ ((aI σ 20) (c).toNatClampNeg) 0 (gI σ 103).toInt.toNat).1)) 55) (((aI σ 20) (c).toNatClampNeg)).toNatClampNeg) + 1)) := (fs_e35 (by show (aI σ 19 c.toNatClampNeg).toInt = 35; omega)).trans (by unfold fs_35; rw [if_neg (show ¬ (((aI σ 95) (((aI σ 20) (c).toNatClampNeg)).toNatClampNeg) = 0) from h250), if_neg (show ¬ (((aI (beS (coS σ ((aI σ 20) (c).toNatClampNeg) 0 (gI σ 103).toInt.toNat) (((aL σ 98) (((aI σ 20) (c).toNatClampNeg)).toNatClampNeg) &&& (coF σ ((aI σ 20) (c).toNatClampNeg) 0 (gI σ 103).toInt.toNat).1)) 97) (((aI σ 20) (c).toNatClampNeg)).toNatClampNeg) = 0) from h256), if_neg (show ¬ ((gI (beS (coS σ ((aI σ 20) (c).toNatClampNeg) 0 (gI σ 103).toInt.toNat) (((aL σ 98) (((aI σ 20) (c).toNatClampNeg)).toNatClampNeg) &&& (coF σ ((aI σ 20) (c).toNatClampNeg) 0 (gI σ 103).toInt.toNat).1)) 116) = 0) from h261)])
              refine ⟨(gI σ 112), (gI σ 113), ⟨Or.inl, fun q => q.elim id (fun z => absurd z (fun z => z.elim (fun y => by omega) (fun y => by omega)))⟩, ?_, ?_⟩
              · rw [la_id]
                exact (congrArg Prod.fst es).symm
              · rw [la_id]
                exact congrArg (fun z => some (Value.int z)) (congrArg Prod.snd es).symm
        · refine hB _ _ _ _ _ (fun m268 hm268 => ?_)
          dsimp only [ugo, uwp, ust, uct, rfd, BflowStep, BflowStep_783, Nat.beq, lv_args, rlk, rs1, rs2, rdl, rky, rcd, rno, rsw, Value.category, List.filter, List.take, List.drop, List.reverse, List.reverseAux, List.cons_append, List.nil_append, Option.toList, Int.toNat, Int.reduceToNat, if_pos, if_neg, reduceIte, ↓reduceIte, Nat.reduceAdd, Nat.reduceEqDiff, Nat.reduceBEq, beq_self_eq_true, Bool.not_true, Bool.not_false, Bool.and_true, Bool.and_false, Bool.true_and, Bool.false_and, gI_sI, gI_sL, gI_sA, gI_sM, gL_sI, gL_sL, gL_sA, gL_sM, aI_sI, aI_sL, aI_sA, aI_sM, aL_sI, aL_sL, aL_sA, aL_sM]; try dsimp only
          refine hB _ _ _ _ _ (fun m269 hm269 => ?_)
          dsimp only [ugo, uwp, ust, uct, rfd, BflowStep, BflowStep_1420, Nat.beq, lv_args, rlk, rs1, rs2, rdl, rky, rcd, rno, rsw, Value.category, List.filter, List.take, List.drop, List.reverse, List.reverseAux, List.cons_append, List.nil_append, Option.toList, Int.toNat, Int.reduceToNat, if_pos, if_neg, reduceIte, ↓reduceIte, Nat.reduceAdd, Nat.reduceEqDiff, Nat.reduceBEq, beq_self_eq_true, Bool.not_true, Bool.not_false, Bool.and_true, Bool.and_false, Bool.true_and, Bool.false_and, gI_sI, gI_sL, gI_sA, gI_sM, gL_sI, gL_sL, gL_sA, gL_sM, aI_sI, aI_sL, aI_sA, aI_sM, aL_sI, aL_sL, aL_sA, aL_sM, oi_1]; try dsimp only
          unfold Qv_flowStep
          try dsimp only
          have es : fsS σ c = (σ, (c + 1)) := (fs_e35 (by show (aI σ 19 c.toNatClampNeg).toInt = 35; omega)).trans (by unfold fs_35; rw [if_pos (show ((aI σ 95) (((aI σ 20) (c).toNatClampNeg)).toNatClampNeg) = 0 from h250)])
          refine ⟨(gI σ 112), (gI σ 113), ⟨Or.inl, fun q => q.elim id (fun z => absurd z (fun z => z.elim (fun y => by omega) (fun y => by omega)))⟩, ?_, ?_⟩
          · rw [la_id]
            exact (congrArg Prod.fst es).symm
          · rw [la_id]
            exact congrArg (fun z => some (Value.int z)) (congrArg Prod.snd es).symm
      have c247 : ¬ (aI σ 19 c.toNatClampNeg).toInt = 35 := fun q => h247 ((rfl : (aI σ 19 c.toNatClampNeg).toInt = (aI σ 19 c.toNatClampNeg).toInt).trans q)
      refine ⟨fun h270 => ?_, fun h270 => ?_⟩
      · have c270 : (aI σ 19 c.toNatClampNeg).toInt = 36 := (rfl : (aI σ 19 c.toNatClampNeg).toInt = (aI σ 19 c.toNatClampNeg).toInt).symm.trans h270
        refine hB _ _ _ _ _ (fun m271 hm271 => ?_)
        dsimp only [ugo, uwp, ust, uct, rfd, BflowStep, BflowStep_837, Nat.beq, lv_args, rlk, rs1, rs2, rdl, rky, rcd, rno, rsw, Value.category, List.filter, List.take, List.drop, List.reverse, List.reverseAux, List.cons_append, List.nil_append, Option.toList, Int.toNat, Int.reduceToNat, if_pos, if_neg, reduceIte, ↓reduceIte, Nat.reduceAdd, Nat.reduceEqDiff, Nat.reduceBEq, beq_self_eq_true, Bool.not_true, Bool.not_false, Bool.and_true, Bool.and_false, Bool.true_and, Bool.false_and, gI_sI, gI_sL, gI_sA, gI_sM, gL_sI, gL_sL, gL_sA, gL_sM, aI_sI, aI_sL, aI_sA, aI_sM, aL_sI, aL_sL, aL_sA, aL_sM, oi_1]; try dsimp only
        refine ⟨trivial, fun w272 τ272 hq272 => ?_⟩
        obtain ⟨rfl, rfl⟩ := hq272 trivial
        dsimp only [Option.toList, List.cons_append, List.nil_append, Nat.beq, gI_sI, gI_sL, gI_sA, gI_sM, gL_sI, gL_sL, gL_sA, gL_sM, aI_sI, aI_sL, aI_sA, aI_sM, aL_sI, aL_sL, aL_sA, aL_sM]
        refine ⟨trivial, fun w273 τ273 hq273 => ?_⟩
        obtain ⟨rfl, _, rfl, rfl⟩ := hq273 trivial
        dsimp only [Option.toList, List.cons_append, List.nil_append, Nat.beq, gI_sI, gI_sL, gI_sA, gI_sM, gL_sI, gL_sL, gL_sA, gL_sM, aI_sI, aI_sL, aI_sA, aI_sM, aL_sI, aL_sL, aL_sA, aL_sM]
        refine ⟨trivial, fun w274 τ274 hq274 => ?_⟩
        obtain ⟨rfl, rfl⟩ := hq274 trivial
        dsimp only [Option.toList, List.cons_append, List.nil_append, Nat.beq, gI_sI, gI_sL, gI_sA, gI_sM, gL_sI, gL_sL, gL_sA, gL_sM, aI_sI, aI_sL, aI_sA, aI_sM, aL_sI, aL_sL, aL_sA, aL_sM]
        intro p275
        intro p276
        unfold Qv_flowStep
        try dsimp only
        have es : fsS σ c = ((sA (beS (coS σ ((aI σ 20) (c).toNatClampNeg) 1 (gI σ 103).toInt.toNat) ((nowR σ) &&& (coF σ ((aI σ 20) (c).toNatClampNeg) 1 (gI σ 103).toInt.toNat).1)) 95 (upd (aI (beS (coS σ ((aI σ 20) (c).toNatClampNeg) 1 (gI σ 103).toInt.toNat) ((nowR σ) &&& (coF σ ((aI σ 20) (c).toNatClampNeg) 1 (gI σ 103).toInt.toNat).1)) 95) (((aI σ 20) (c).toNatClampNeg)).toNatClampNeg 1)), (((aI (beS (coS σ ((aI σ 20) (c).toNatClampNeg) 1 (gI σ 103).toInt.toNat) ((nowR σ) &&& (coF σ ((aI σ 20) (c).toNatClampNeg) 1 (gI σ 103).toInt.toNat).1)) 53) (((aI σ 20) (c).toNatClampNeg)).toNatClampNeg) + 1)) := (fs_e36 (by show (aI σ 19 c.toNatClampNeg).toInt = 36; omega)).trans (rfl)
        refine ⟨(gI σ 112), (gI σ 113), ⟨Or.inl, fun q => q.elim id (fun z => absurd z (fun z => z.elim (fun y => by omega) (fun y => by omega)))⟩, ?_, ?_⟩
        · rw [la_id]
          exact (congrArg Prod.fst es).symm
        · rw [la_id]
          exact congrArg (fun z => some (Value.int z)) (congrArg Prod.snd es).symm
      have c270 : ¬ (aI σ 19 c.toNatClampNeg).toInt = 36 := fun q => h270 ((rfl : (aI σ 19 c.toNatClampNeg).toInt = (aI σ 19 c.toNatClampNeg).toInt).trans q)
      refine ⟨fun h277 => ?_, fun h277 => ?_⟩
      · have c277 : (aI σ 19 c.toNatClampNeg).toInt = 37 := (rfl : (aI σ 19 c.toNatClampNeg).toInt = (aI σ 19 c.toNatClampNeg).toInt).symm.trans h277
        refine hB _ _ _ _ _ (fun m278 hm278 => ?_)
        dsimp only [ugo, uwp, ust, uct, rfd, BflowStep, BflowStep_868, Nat.beq, lv_args, rlk, rs1, rs2, rdl, rky, rcd, rno, rsw, Value.category, List.filter, List.take, List.drop, List.reverse, List.reverseAux, List.cons_append, List.nil_append, Option.toList, Int.toNat, Int.reduceToNat, if_pos, if_neg, reduceIte, ↓reduceIte, Nat.reduceAdd, Nat.reduceEqDiff, Nat.reduceBEq, beq_self_eq_true, Bool.not_true, Bool.not_false, Bool.and_true, Bool.and_false, Bool.true_and, Bool.false_and, gI_sI, gI_sL, gI_sA, gI_sM, gL_sI, gL_sL, gL_sA, gL_sM, aI_sI, aI_sL, aI_sA, aI_sM, aL_sI, aL_sL, aL_sA, aL_sM, oi_1]; try dsimp only
        refine ⟨trivial, fun w279 τ279 hq279 => ?_⟩
        obtain ⟨rfl, rfl⟩ := hq279 trivial
        dsimp only [Option.toList, List.cons_append, List.nil_append, Nat.beq, gI_sI, gI_sL, gI_sA, gI_sM, gL_sI, gL_sL, gL_sA, gL_sM, aI_sI, aI_sL, aI_sA, aI_sM, aL_sI, aL_sL, aL_sA, aL_sM]
        refine ⟨trivial, fun w280 τ280 hq280 => ?_⟩
        obtain ⟨rfl, rfl⟩ := hq280 trivial
        dsimp only [Option.toList, List.cons_append, List.nil_append, Nat.beq, gI_sI, gI_sL, gI_sA, gI_sM, gL_sI, gL_sL, gL_sA, gL_sM, aI_sI, aI_sL, aI_sA, aI_sM, aL_sI, aL_sL, aL_sA, aL_sM]
        refine ⟨trivial, fun w281 τ281 hq281 => ?_⟩
        obtain ⟨rfl, rfl⟩ := hq281 trivial
        dsimp only [Option.toList, List.cons_append, List.nil_append, Nat.beq, gI_sI, gI_sL, gI_sA, gI_sM, gL_sI, gL_sL, gL_sA, gL_sM, aI_sI, aI_sL, aI_sA, aI_sM, aL_sI, aL_sL, aL_sA, aL_sM]
        intro p282
        refine hB _ _ _ _ _ (fun m283 hm283 => ?_)
        dsimp only [ugo, uwp, ust, uct, rfd, BflowStep, BflowStep_1420, Nat.beq, lv_args, rlk, rs1, rs2, rdl, rky, rcd, rno, rsw, Value.category, List.filter, List.take, List.drop, List.reverse, List.reverseAux, List.cons_append, List.nil_append, Option.toList, Int.toNat, Int.reduceToNat, if_pos, if_neg, reduceIte, ↓reduceIte, Nat.reduceAdd, Nat.reduceEqDiff, Nat.reduceBEq, beq_self_eq_true, Bool.not_true, Bool.not_false, Bool.and_true, Bool.and_false, Bool.true_and, Bool.false_and, gI_sI, gI_sL, gI_sA, gI_sM, gL_sI, gL_sL, gL_sA, gL_sM, aI_sI, aI_sL, aI_sA, aI_sM, aL_sI, aL_sL, aL_sA, aL_sM, oi_1]; try dsimp only
        unfold Qv_flowStep
        try dsimp only
        have es : fsS σ c = ((sI (sM (beS σ (nowR σ)) 96 (vp_updL (aL (beS σ (nowR σ)) 96) (((aI σ 20) (c).toNatClampNeg)).toNatClampNeg (nowR (beS σ (nowR σ))))) 92 1), (c + 1)) := (fs_e37 (by show (aI σ 19 c.toNatClampNeg).toInt = 37; omega)).trans (rfl)
        refine ⟨(gI σ 112), (gI σ 113), ⟨Or.inl, fun q => q.elim id (fun z => absurd z (fun z => z.elim (fun y => by omega) (fun y => by omega)))⟩, ?_, ?_⟩
        · rw [la_id]
          exact (congrArg Prod.fst es).symm
        · rw [la_id]
          exact congrArg (fun z => some (Value.int z)) (congrArg Prod.snd es).symm
      have c277 : ¬ (aI σ 19 c.toNatClampNeg).toInt = 37 := fun q => h277 ((rfl : (aI σ 19 c.toNatClampNeg).toInt = (aI σ 19 c.toNatClampNeg).toInt).trans q)
      refine ⟨fun h284 => ?_, fun h284 => ?_⟩
      · have c284 : (aI σ 19 c.toNatClampNeg).toInt = 38 := (rfl : (aI σ 19 c.toNatClampNeg).toInt = (aI σ 19 c.toNatClampNeg).toInt).symm.trans h284
        refine hB _ _ _ _ _ (fun m285 hm285 => ?_)
        dsimp only [ugo, uwp, ust, uct, rfd, BflowStep, BflowStep_894, Nat.beq, lv_args, rlk, rs1, rs2, rdl, rky, rcd, rno, rsw, Value.category, List.filter, List.take, List.drop, List.reverse, List.reverseAux, List.cons_append, List.nil_append, Option.toList, Int.toNat, Int.reduceToNat, if_pos, if_neg, reduceIte, ↓reduceIte, Nat.reduceAdd, Nat.reduceEqDiff, Nat.reduceBEq, beq_self_eq_true, Bool.not_true, Bool.not_false, Bool.and_true, Bool.and_false, Bool.true_and, Bool.false_and, gI_sI, gI_sL, gI_sA, gI_sM, gL_sI, gL_sL, gL_sA, gL_sM, aI_sI, aI_sL, aI_sA, aI_sM, aL_sI, aL_sL, aL_sA, aL_sM, oi_1]; try dsimp only
        refine ⟨trivial, fun w286 τ286 hq286 => ?_⟩
        obtain ⟨rfl, rfl⟩ := hq286 trivial
        dsimp only [Option.toList, List.cons_append, List.nil_append, Nat.beq, gI_sI, gI_sL, gI_sA, gI_sM, gL_sI, gL_sL, gL_sA, gL_sM, aI_sI, aI_sL, aI_sA, aI_sM, aL_sI, aL_sL, aL_sA, aL_sM]
        intro p287
        refine ⟨trivial, fun w288 τ288 hq288 => ?_⟩
        obtain ⟨rfl, rfl⟩ := hq288 trivial
        dsimp only [Option.toList, List.cons_append, List.nil_append, Nat.beq, gI_sI, gI_sL, gI_sA, gI_sM, gL_sI, gL_sL, gL_sA, gL_sM, aI_sI, aI_sL, aI_sA, aI_sM, aL_sI, aL_sL, aL_sA, aL_sM]
        refine hB _ _ _ _ _ (fun m289 hm289 => ?_)
        dsimp only [ugo, uwp, ust, uct, rfd, BflowStep, BflowStep_1420, Nat.beq, lv_args, rlk, rs1, rs2, rdl, rky, rcd, rno, rsw, Value.category, List.filter, List.take, List.drop, List.reverse, List.reverseAux, List.cons_append, List.nil_append, Option.toList, Int.toNat, Int.reduceToNat, if_pos, if_neg, reduceIte, ↓reduceIte, Nat.reduceAdd, Nat.reduceEqDiff, Nat.reduceBEq, beq_self_eq_true, Bool.not_true, Bool.not_false, Bool.and_true, Bool.and_false, Bool.true_and, Bool.false_and, gI_sI, gI_sL, gI_sA, gI_sM, gL_sI, gL_sL, gL_sA, gL_sM, aI_sI, aI_sL, aI_sA, aI_sM, aL_sI, aL_sL, aL_sA, aL_sM, oi_1]; try dsimp only
        unfold Qv_flowStep
        try dsimp only
        have es : fsS σ c = ((sI (beS σ ((nowR σ) &&& ((aL σ 96) (((aI σ 20) (c).toNatClampNeg)).toNatClampNeg))) 92 1), (c + 1)) := (fs_e38 (by show (aI σ 19 c.toNatClampNeg).toInt = 38; omega)).trans (rfl)
        refine ⟨(gI σ 112), (gI σ 113), ⟨Or.inl, fun q => q.elim id (fun z => absurd z (fun z => z.elim (fun y => by omega) (fun y => by omega)))⟩, ?_, ?_⟩
        · rw [la_id]
          exact (congrArg Prod.fst es).symm
        · rw [la_id]
          exact congrArg (fun z => some (Value.int z)) (congrArg Prod.snd es).symm
      have c284 : ¬ (aI σ 19 c.toNatClampNeg).toInt = 38 := fun q => h284 ((rfl : (aI σ 19 c.toNatClampNeg).toInt = (aI σ 19 c.toNatClampNeg).toInt).trans q)
      refine ⟨fun h290 => ?_, fun h290 => ?_⟩
      · have c290 : (aI σ 19 c.toNatClampNeg).toInt = 39 := (rfl : (aI σ 19 c.toNatClampNeg).toInt = (aI σ 19 c.toNatClampNeg).toInt).symm.trans h290
        refine hB _ _ _ _ _ (fun m291 hm291 => ?_)
        dsimp only [ugo, uwp, ust, uct, rfd, BflowStep, BflowStep_894, Nat.beq, lv_args, rlk, rs1, rs2, rdl, rky, rcd, rno, rsw, Value.category, List.filter, List.take, List.drop, List.reverse, List.reverseAux, List.cons_append, List.nil_append, Option.toList, Int.toNat, Int.reduceToNat, if_pos, if_neg, reduceIte, ↓reduceIte, Nat.reduceAdd, Nat.reduceEqDiff, Nat.reduceBEq, beq_self_eq_true, Bool.not_true, Bool.not_false, Bool.and_true, Bool.and_false, Bool.true_and, Bool.false_and, gI_sI, gI_sL, gI_sA, gI_sM, gL_sI, gL_sL, gL_sA, gL_sM, aI_sI, aI_sL, aI_sA, aI_sM, aL_sI, aL_sL, aL_sA, aL_sM, oi_1]; try dsimp only
        refine ⟨trivial, fun w292 τ292 hq292 => ?_⟩
        obtain ⟨rfl, rfl⟩ := hq292 trivial
        dsimp only [Option.toList, List.cons_append, List.nil_append, Nat.beq, gI_sI, gI_sL, gI_sA, gI_sM, gL_sI, gL_sL, gL_sA, gL_sM, aI_sI, aI_sL, aI_sA, aI_sM, aL_sI, aL_sL, aL_sA, aL_sM]
        intro p293
        refine ⟨trivial, fun w294 τ294 hq294 => ?_⟩
        obtain ⟨rfl, rfl⟩ := hq294 trivial
        dsimp only [Option.toList, List.cons_append, List.nil_append, Nat.beq, gI_sI, gI_sL, gI_sA, gI_sM, gL_sI, gL_sL, gL_sA, gL_sM, aI_sI, aI_sL, aI_sA, aI_sM, aL_sI, aL_sL, aL_sA, aL_sM]
        refine hB _ _ _ _ _ (fun m295 hm295 => ?_)
        dsimp only [ugo, uwp, ust, uct, rfd, BflowStep, BflowStep_1420, Nat.beq, lv_args, rlk, rs1, rs2, rdl, rky, rcd, rno, rsw, Value.category, List.filter, List.take, List.drop, List.reverse, List.reverseAux, List.cons_append, List.nil_append, Option.toList, Int.toNat, Int.reduceToNat, if_pos, if_neg, reduceIte, ↓reduceIte, Nat.reduceAdd, Nat.reduceEqDiff, Nat.reduceBEq, beq_self_eq_true, Bool.not_true, Bool.not_false, Bool.and_true, Bool.and_false, Bool.true_and, Bool.false_and, gI_sI, gI_sL, gI_sA, gI_sM, gL_sI, gL_sL, gL_sA, gL_sM, aI_sI, aI_sL, aI_sA, aI_sM, aL_sI, aL_sL, aL_sA, aL_sM, oi_1]; try dsimp only
        unfold Qv_flowStep
        try dsimp only
        have es : fsS σ c = ((sI (beS σ ((nowR σ) &&& ((aL σ 96) (((aI σ 20) (c).toNatClampNeg)).toNatClampNeg))) 92 1), (c + 1)) := (fs_e39 (by show (aI σ 19 c.toNatClampNeg).toInt = 39; omega)).trans (rfl)
        refine ⟨(gI σ 112), (gI σ 113), ⟨Or.inl, fun q => q.elim id (fun z => absurd z (fun z => z.elim (fun y => by omega) (fun y => by omega)))⟩, ?_, ?_⟩
        · rw [la_id]
          exact (congrArg Prod.fst es).symm
        · rw [la_id]
          exact congrArg (fun z => some (Value.int z)) (congrArg Prod.snd es).symm
      have c290 : ¬ (aI σ 19 c.toNatClampNeg).toInt = 39 := fun q => h290 ((rfl : (aI σ 19 c.toNatClampNeg).toInt = (aI σ 19 c.toNatClampNeg).toInt).trans q)
      refine ⟨fun h296 => ?_, fun h296 => ?_⟩
      · have c296 : (aI σ 19 c.toNatClampNeg).toInt = 40 := (rfl : (aI σ 19 c.toNatClampNeg).toInt = (aI σ 19 c.toNatClampNeg).toInt).symm.trans h296
        refine hB _ _ _ _ _ (fun m297 hm297 => ?_)
        dsimp only [ugo, uwp, ust, uct, rfd, BflowStep, BflowStep_917, Nat.beq, lv_args, rlk, rs1, rs2, rdl, rky, rcd, rno, rsw, Value.category, List.filter, List.take, List.drop, List.reverse, List.reverseAux, List.cons_append, List.nil_append, Option.toList, Int.toNat, Int.reduceToNat, if_pos, if_neg, reduceIte, ↓reduceIte, Nat.reduceAdd, Nat.reduceEqDiff, Nat.reduceBEq, beq_self_eq_true, Bool.not_true, Bool.not_false, Bool.and_true, Bool.and_false, Bool.true_and, Bool.false_and, gI_sI, gI_sL, gI_sA, gI_sM, gL_sI, gL_sL, gL_sA, gL_sM, aI_sI, aI_sL, aI_sA, aI_sM, aL_sI, aL_sL, aL_sA, aL_sM, oi_0]; try dsimp only
        refine ⟨trivial, fun w298 τ298 hq298 => ?_⟩
        obtain ⟨rfl, rfl⟩ := hq298 trivial
        dsimp only [Option.toList, List.cons_append, List.nil_append, Nat.beq, gI_sI, gI_sL, gI_sA, gI_sM, gL_sI, gL_sL, gL_sA, gL_sM, aI_sI, aI_sL, aI_sA, aI_sM, aL_sI, aL_sL, aL_sA, aL_sM]
        refine ⟨trivial, fun w299 τ299 hq299 => ?_⟩
        obtain ⟨rfl, _, rfl, rfl⟩ := hq299 trivial
        dsimp only [Option.toList, List.cons_append, List.nil_append, Nat.beq, gI_sI, gI_sL, gI_sA, gI_sM, gL_sI, gL_sL, gL_sA, gL_sM, aI_sI, aI_sL, aI_sA, aI_sM, aL_sI, aL_sL, aL_sA, aL_sM]
        intro p300
        refine ⟨fun h301 => ?_, fun h301 => ?_⟩
        · refine hB _ _ _ _ _ (fun m302 hm302 => ?_)
          dsimp only [ugo, uwp, ust, uct, rfd, BflowStep, BflowStep_947, Nat.beq, lv_args, rlk, rs1, rs2, rdl, rky, rcd, rno, rsw, Value.category, List.filter, List.take, List.drop, List.reverse, List.reverseAux, List.cons_append, List.nil_append, Option.toList, Int.toNat, Int.reduceToNat, if_pos, if_neg, reduceIte, ↓reduceIte, Nat.reduceAdd, Nat.reduceEqDiff, Nat.reduceBEq, beq_self_eq_true, Bool.not_true, Bool.not_false, Bool.and_true, Bool.and_false, Bool.true_and, Bool.false_and, gI_sI, gI_sL, gI_sA, gI_sM, gL_sI, gL_sL, gL_sA, gL_sM, aI_sI, aI_sL, aI_sA, aI_sM, aL_sI, aL_sL, aL_sA, aL_sM]; try dsimp only
          refine hB _ _ _ _ _ (fun m303 hm303 => ?_)
          dsimp only [ugo, uwp, ust, uct, rfd, BflowStep, BflowStep_950, Nat.beq, lv_args, rlk, rs1, rs2, rdl, rky, rcd, rno, rsw, Value.category, List.filter, List.take, List.drop, List.reverse, List.reverseAux, List.cons_append, List.nil_append, Option.toList, Int.toNat, Int.reduceToNat, if_pos, if_neg, reduceIte, ↓reduceIte, Nat.reduceAdd, Nat.reduceEqDiff, Nat.reduceBEq, beq_self_eq_true, Bool.not_true, Bool.not_false, Bool.and_true, Bool.and_false, Bool.true_and, Bool.false_and, gI_sI, gI_sL, gI_sA, gI_sM, gL_sI, gL_sL, gL_sA, gL_sM, aI_sI, aI_sL, aI_sA, aI_sM, aL_sI, aL_sL, aL_sA, aL_sM]; try dsimp only
          refine ⟨trivial, fun w304 τ304 hq304 => ?_⟩
          obtain ⟨rfl, rfl⟩ := hq304 trivial
          dsimp only [Option.toList, List.cons_append, List.nil_append, Nat.beq, gI_sI, gI_sL, gI_sA, gI_sM, gL_sI, gL_sL, gL_sA, gL_sM, aI_sI, aI_sL, aI_sA, aI_sM, aL_sI, aL_sL, aL_sA, aL_sM]
          refine ⟨fun h305 => ?_, fun h305 => ?_⟩
          · refine hB _ _ _ _ _ (fun m306 hm306 => ?_)
            dsimp only [ugo, uwp, ust, uct, rfd, BflowStep, BflowStep_978, Nat.beq, lv_args, rlk, rs1, rs2, rdl, rky, rcd, rno, rsw, Value.category, List.filter, List.take, List.drop, List.reverse, List.reverseAux, List.cons_append, List.nil_append, Option.toList, Int.toNat, Int.reduceToNat, if_pos, if_neg, reduceIte, ↓reduceIte, Nat.reduceAdd, Nat.reduceEqDiff, Nat.reduceBEq, beq_self_eq_true, Bool.not_true, Bool.not_false, Bool.and_true, Bool.and_false, Bool.true_and, Bool.false_and, gI_sI, gI_sL, gI_sA, gI_sM, gL_sI, gL_sL, gL_sA, gL_sM, aI_sI, aI_sL, aI_sA, aI_sM, aL_sI, aL_sL, aL_sA, aL_sM, oi_1]; try dsimp only
            refine hB _ _ _ _ _ (fun m307 hm307 => ?_)
            dsimp only [ugo, uwp, ust, uct, rfd, BflowStep, BflowStep_983, Nat.beq, lv_args, rlk, rs1, rs2, rdl, rky, rcd, rno, rsw, Value.category, List.filter, List.take, List.drop, List.reverse, List.reverseAux, List.cons_append, List.nil_append, Option.toList, Int.toNat, Int.reduceToNat, if_pos, if_neg, reduceIte, ↓reduceIte, Nat.reduceAdd, Nat.reduceEqDiff, Nat.reduceBEq, beq_self_eq_true, Bool.not_true, Bool.not_false, Bool.and_true, Bool.and_false, Bool.true_and, Bool.false_and, gI_sI, gI_sL, gI_sA, gI_sM, gL_sI, gL_sL, gL_sA, gL_sM, aI_sI, aI_sL, aI_sA, aI_sM, aL_sI, aL_sL, aL_sA, aL_sM]; try dsimp only
            refine hB _ _ _ _ _ (fun m308 hm308 => ?_)
            dsimp only [ugo, uwp, ust, uct, rfd, BflowStep, BflowStep_1420, Nat.beq, lv_args, rlk, rs1, rs2, rdl, rky, rcd, rno, rsw, Value.category, List.filter, List.take, List.drop, List.reverse, List.reverseAux, List.cons_append, List.nil_append, Option.toList, Int.toNat, Int.reduceToNat, if_pos, if_neg, reduceIte, ↓reduceIte, Nat.reduceAdd, Nat.reduceEqDiff, Nat.reduceBEq, beq_self_eq_true, Bool.not_true, Bool.not_false, Bool.and_true, Bool.and_false, Bool.true_and, Bool.false_and, gI_sI, gI_sL, gI_sA, gI_sM, gL_sI, gL_sL, gL_sA, gL_sM, aI_sI, aI_sL, aI_sA, aI_sM, aL_sI, aL_sL, aL_sA, aL_sM, oi_1]; try dsimp only
            unfold Qv_flowStep
            try dsimp only
            have es : fsS σ c = ((sI (beS (coS σ ((aI σ 20) (c).toNatClampNeg) 0 (gI σ 103).toInt.toNat) (((nowR σ) &&& (coF σ ((aI σ 20) (c).toNatClampNeg) 0 (gI σ 103).toInt.toNat).1) &&& (Int64.ofInt (-1)))) 92 1), (c + 1)) := (fs_e40 (by show (aI σ 19 c.toNatClampNeg).toInt = 40; omega)).trans (by unfold fs_40; rw [if_pos (show 0 ≤ ((aI (coS σ ((aI σ 20) (c).toNatClampNeg) 0 (gI σ 103).toInt.toNat) 59) (((aI σ 20) (c).toNatClampNeg)).toNatClampNeg) from h301), if_neg (show ¬ ((gI (beS (coS σ ((aI σ 20) (c).toNatClampNeg) 0 (gI σ 103).toInt.toNat) (((nowR σ) &&& (coF σ ((aI σ 20) (c).toNatClampNeg) 0 (gI σ 103).toInt.toNat).1) &&& (Int64.ofInt (-1)))) 92) = 0) from h305)])
            refine ⟨(gI σ 112), (gI σ 113), ⟨Or.inl, fun q => q.elim id (fun z => absurd z (fun z => z.elim (fun y => by omega) (fun y => by omega)))⟩, ?_, ?_⟩
            · rw [la_id]
              exact (congrArg Prod.fst es).symm
            · rw [la_id]
              exact congrArg (fun z => some (Value.int z)) (congrArg Prod.snd es).symm
          · refine hB _ _ _ _ _ (fun m309 hm309 => ?_)
            dsimp only [ugo, uwp, ust, uct, rfd, BflowStep, BflowStep_962, Nat.beq, lv_args, rlk, rs1, rs2, rdl, rky, rcd, rno, rsw, Value.category, List.filter, List.take, List.drop, List.reverse, List.reverseAux, List.cons_append, List.nil_append, Option.toList, Int.toNat, Int.reduceToNat, if_pos, if_neg, reduceIte, ↓reduceIte, Nat.reduceAdd, Nat.reduceEqDiff, Nat.reduceBEq, beq_self_eq_true, Bool.not_true, Bool.not_false, Bool.and_true, Bool.and_false, Bool.true_and, Bool.false_and, gI_sI, gI_sL, gI_sA, gI_sM, gL_sI, gL_sL, gL_sA, gL_sM, aI_sI, aI_sL, aI_sA, aI_sM, aL_sI, aL_sL, aL_sA, aL_sM]; try dsimp only
            refine ⟨fun h310 => ?_, fun h310 => ?_⟩
            · refine hB _ _ _ _ _ (fun m311 hm311 => ?_)
              dsimp only [ugo, uwp, ust, uct, rfd, BflowStep, BflowStep_978, Nat.beq, lv_args, rlk, rs1, rs2, rdl, rky, rcd, rno, rsw, Value.category, List.filter, List.take, List.drop, List.reverse, List.reverseAux, List.cons_append, List.nil_append, Option.toList, Int.toNat, Int.reduceToNat, if_pos, if_neg, reduceIte, ↓reduceIte, Nat.reduceAdd, Nat.reduceEqDiff, Nat.reduceBEq, beq_self_eq_true, Bool.not_true, Bool.not_false, Bool.and_true, Bool.and_false, Bool.true_and, Bool.false_and, gI_sI, gI_sL, gI_sA, gI_sM, gL_sI, gL_sL, gL_sA, gL_sM, aI_sI, aI_sL, aI_sA, aI_sM, aL_sI, aL_sL, aL_sA, aL_sM, oi_1]; try dsimp only
              refine hB _ _ _ _ _ (fun m312 hm312 => ?_)
              dsimp only [ugo, uwp, ust, uct, rfd, BflowStep, BflowStep_983, Nat.beq, lv_args, rlk, rs1, rs2, rdl, rky, rcd, rno, rsw, Value.category, List.filter, List.take, List.drop, List.reverse, List.reverseAux, List.cons_append, List.nil_append, Option.toList, Int.toNat, Int.reduceToNat, if_pos, if_neg, reduceIte, ↓reduceIte, Nat.reduceAdd, Nat.reduceEqDiff, Nat.reduceBEq, beq_self_eq_true, Bool.not_true, Bool.not_false, Bool.and_true, Bool.and_false, Bool.true_and, Bool.false_and, gI_sI, gI_sL, gI_sA, gI_sM, gL_sI, gL_sL, gL_sA, gL_sM, aI_sI, aI_sL, aI_sA, aI_sM, aL_sI, aL_sL, aL_sA, aL_sM]; try dsimp only
              refine hB _ _ _ _ _ (fun m313 hm313 => ?_)
              dsimp only [ugo, uwp, ust, uct, rfd, BflowStep, BflowStep_1420, Nat.beq, lv_args, rlk, rs1, rs2, rdl, rky, rcd, rno, rsw, Value.category, List.filter, List.take, List.drop, List.reverse, List.reverseAux, List.cons_append, List.nil_append, Option.toList, Int.toNat, Int.reduceToNat, if_pos, if_neg, reduceIte, ↓reduceIte, Nat.reduceAdd, Nat.reduceEqDiff, Nat.reduceBEq, beq_self_eq_true, Bool.not_true, Bool.not_false, Bool.and_true, Bool.and_false, Bool.true_and, Bool.false_and, gI_sI, gI_sL, gI_sA, gI_sM, gL_sI, gL_sL, gL_sA, gL_sM, aI_sI, aI_sL, aI_sA, aI_sM, aL_sI, aL_sL, aL_sA, aL_sM, oi_1]; try dsimp only
              unfold Qv_flowStep
              try dsimp only
              have es : fsS σ c = ((sI (beS (coS σ ((aI σ 20) (c).toNatClampNeg) 0 (gI σ 103).toInt.toNat) (((nowR σ) &&& (coF σ ((aI σ 20) (c).toNatClampNeg) 0 (gI σ 103).toInt.toNat).1) &&& (Int64.ofInt (-1)))) 92 1), (c + 1)) := (fs_e40 (by show (aI σ 19 c.toNatClampNeg).toInt = 40; omega)).trans (by unfold fs_40; rw [if_pos (show 0 ≤ ((aI (coS σ ((aI σ 20) (c).toNatClampNeg) 0 (gI σ 103).toInt.toNat) 59) (((aI σ 20) (c).toNatClampNeg)).toNatClampNeg) from h301), if_pos (show (gI (beS (coS σ ((aI σ 20) (c).toNatClampNeg) 0 (gI σ 103).toInt.toNat) (((nowR σ) &&& (coF σ ((aI σ 20) (c).toNatClampNeg) 0 (gI σ 103).toInt.toNat).1) &&& (Int64.ofInt (-1)))) 92) = 0 from h305), if_neg (show ¬ ((gI (beS (coS σ ((aI σ 20) (c).toNatClampNeg) 0 (gI σ 103).toInt.toNat) (((nowR σ) &&& (coF σ ((aI σ 20) (c).toNatClampNeg) 0 (gI σ 103).toInt.toNat).1) &&& (Int64.ofInt (-1)))) 116) = 0) from h310)])
              refine ⟨(gI σ 112), (gI σ 113), ⟨Or.inl, fun q => q.elim id (fun z => absurd z (fun z => z.elim (fun y => by omega) (fun y => by omega)))⟩, ?_, ?_⟩
              · rw [la_id]
                exact (congrArg Prod.fst es).symm
              · rw [la_id]
                exact congrArg (fun z => some (Value.int z)) (congrArg Prod.snd es).symm
            · refine hB _ _ _ _ _ (fun m314 hm314 => ?_)
              dsimp only [ugo, uwp, ust, uct, rfd, BflowStep, BflowStep_969, Nat.beq, lv_args, rlk, rs1, rs2, rdl, rky, rcd, rno, rsw, Value.category, List.filter, List.take, List.drop, List.reverse, List.reverseAux, List.cons_append, List.nil_append, Option.toList, Int.toNat, Int.reduceToNat, if_pos, if_neg, reduceIte, ↓reduceIte, Nat.reduceAdd, Nat.reduceEqDiff, Nat.reduceBEq, beq_self_eq_true, Bool.not_true, Bool.not_false, Bool.and_true, Bool.and_false, Bool.true_and, Bool.false_and, gI_sI, gI_sL, gI_sA, gI_sM, gL_sI, gL_sL, gL_sA, gL_sM, aI_sI, aI_sL, aI_sA, aI_sM, aL_sI, aL_sL, aL_sA, aL_sM]; try dsimp only
              intro p315
              refine ⟨fun h316 => ?_, fun h316 => ?_⟩
              · refine hB _ _ _ _ _ (fun m317 hm317 => ?_)
                dsimp only [ugo, uwp, ust, uct, rfd, BflowStep, BflowStep_982, Nat.beq, lv_args, rlk, rs1, rs2, rdl, rky, rcd, rno, rsw, Value.category, List.filter, List.take, List.drop, List.reverse, List.reverseAux, List.cons_append, List.nil_append, Option.toList, Int.toNat, Int.reduceToNat, if_pos, if_neg, reduceIte, ↓reduceIte, Nat.reduceAdd, Nat.reduceEqDiff, Nat.reduceBEq, beq_self_eq_true, Bool.not_true, Bool.not_false, Bool.and_true, Bool.and_false, Bool.true_and, Bool.false_and, gI_sI, gI_sL, gI_sA, gI_sM, gL_sI, gL_sL, gL_sA, gL_sM, aI_sI, aI_sL, aI_sA, aI_sM, aL_sI, aL_sL, aL_sA, aL_sM, oi_0]; try dsimp only
                refine hB _ _ _ _ _ (fun m318 hm318 => ?_)
                dsimp only [ugo, uwp, ust, uct, rfd, BflowStep, BflowStep_983, Nat.beq, lv_args, rlk, rs1, rs2, rdl, rky, rcd, rno, rsw, Value.category, List.filter, List.take, List.drop, List.reverse, List.reverseAux, List.cons_append, List.nil_append, Option.toList, Int.toNat, Int.reduceToNat, if_pos, if_neg, reduceIte, ↓reduceIte, Nat.reduceAdd, Nat.reduceEqDiff, Nat.reduceBEq, beq_self_eq_true, Bool.not_true, Bool.not_false, Bool.and_true, Bool.and_false, Bool.true_and, Bool.false_and, gI_sI, gI_sL, gI_sA, gI_sM, gL_sI, gL_sL, gL_sA, gL_sM, aI_sI, aI_sL, aI_sA, aI_sM, aL_sI, aL_sL, aL_sA, aL_sM]; try dsimp only
                refine hB _ _ _ _ _ (fun m319 hm319 => ?_)
                dsimp only [ugo, uwp, ust, uct, rfd, BflowStep, BflowStep_1420, Nat.beq, lv_args, rlk, rs1, rs2, rdl, rky, rcd, rno, rsw, Value.category, List.filter, List.take, List.drop, List.reverse, List.reverseAux, List.cons_append, List.nil_append, Option.toList, Int.toNat, Int.reduceToNat, if_pos, if_neg, reduceIte, ↓reduceIte, Nat.reduceAdd, Nat.reduceEqDiff, Nat.reduceBEq, beq_self_eq_true, Bool.not_true, Bool.not_false, Bool.and_true, Bool.and_false, Bool.true_and, Bool.false_and, gI_sI, gI_sL, gI_sA, gI_sM, gL_sI, gL_sL, gL_sA, gL_sM, aI_sI, aI_sL, aI_sA, aI_sM, aL_sI, aL_sL, aL_sA, aL_sM, oi_1]; try dsimp only
                unfold Qv_flowStep
                try dsimp only
                have es : fsS σ c = ((sI (beS (coS σ ((aI σ 20) (c).toNatClampNeg) 0 (gI σ 103).toInt.toNat) (((nowR σ) &&& (coF σ ((aI σ 20) (c).toNatClampNeg) 0 (gI σ 103).toInt.toNat).1) &&& (Int64.ofInt (-1)))) 92 0), (c + 1)) := (fs_e40 (by show (aI σ 19 c.toNatClampNeg).toInt = 40; omega)).trans (by unfold fs_40; rw [if_pos (show 0 ≤ ((aI (coS σ ((aI σ 20) (c).toNatClampNeg) 0 (gI σ 103).toInt.toNat) 59) (((aI σ 20) (c).toNatClampNeg)).toNatClampNeg) from h301), if_pos (show (gI (beS (coS σ ((aI σ 20) (c).toNatClampNeg) 0 (gI σ 103).toInt.toNat) (((nowR σ) &&& (coF σ ((aI σ 20) (c).toNatClampNeg) 0 (gI σ 103).toInt.toNat).1) &&& (Int64.ofInt (-1)))) 92) = 0 from h305), if_pos (show (gI (beS (coS σ ((aI σ 20) (c).toNatClampNeg) 0 (gI σ 103).toInt.toNat) (((nowR σ) &&& (coF σ ((aI σ 20) (c).toNatClampNeg) 0 (gI σ 103).toInt.toNat).1) &&& (Int64.ofInt (-1)))) 116) = 0 from h310), if_pos (show 0 ≤ ((aI (beS (coS σ ((aI σ 20) (c).toNatClampNeg) 0 (gI σ 103).toInt.toNat) (((nowR σ) &&& (coF σ ((aI σ 20) (c).toNatClampNeg) 0 (gI σ 103).toInt.toNat).1) &&& (Int64.ofInt (-1)))) 59) (((aI σ 20) (c).toNatClampNeg)).toNatClampNeg) from h316)])
                refine ⟨(gI σ 112), (gI σ 113), ⟨Or.inl, fun q => q.elim id (fun z => absurd z (fun z => z.elim (fun y => by omega) (fun y => by omega)))⟩, ?_, ?_⟩
                · rw [la_id]
                  exact (congrArg Prod.fst es).symm
                · rw [la_id]
                  exact congrArg (fun z => some (Value.int z)) (congrArg Prod.snd es).symm
              · refine hB _ _ _ _ _ (fun m320 hm320 => ?_)
                dsimp only [ugo, uwp, ust, uct, rfd, BflowStep, BflowStep_978, Nat.beq, lv_args, rlk, rs1, rs2, rdl, rky, rcd, rno, rsw, Value.category, List.filter, List.take, List.drop, List.reverse, List.reverseAux, List.cons_append, List.nil_append, Option.toList, Int.toNat, Int.reduceToNat, if_pos, if_neg, reduceIte, ↓reduceIte, Nat.reduceAdd, Nat.reduceEqDiff, Nat.reduceBEq, beq_self_eq_true, Bool.not_true, Bool.not_false, Bool.and_true, Bool.and_false, Bool.true_and, Bool.false_and, gI_sI, gI_sL, gI_sA, gI_sM, gL_sI, gL_sL, gL_sA, gL_sM, aI_sI, aI_sL, aI_sA, aI_sM, aL_sI, aL_sL, aL_sA, aL_sM, oi_1]; try dsimp only
                refine hB _ _ _ _ _ (fun m321 hm321 => ?_)
                dsimp only [ugo, uwp, ust, uct, rfd, BflowStep, BflowStep_983, Nat.beq, lv_args, rlk, rs1, rs2, rdl, rky, rcd, rno, rsw, Value.category, List.filter, List.take, List.drop, List.reverse, List.reverseAux, List.cons_append, List.nil_append, Option.toList, Int.toNat, Int.reduceToNat, if_pos, if_neg, reduceIte, ↓reduceIte, Nat.reduceAdd, Nat.reduceEqDiff, Nat.reduceBEq, beq_self_eq_true, Bool.not_true, Bool.not_false, Bool.and_true, Bool.and_false, Bool.true_and, Bool.false_and, gI_sI, gI_sL, gI_sA, gI_sM, gL_sI, gL_sL, gL_sA, gL_sM, aI_sI, aI_sL, aI_sA, aI_sM, aL_sI, aL_sL, aL_sA, aL_sM]; try dsimp only
                refine hB _ _ _ _ _ (fun m322 hm322 => ?_)
                dsimp only [ugo, uwp, ust, uct, rfd, BflowStep, BflowStep_1420, Nat.beq, lv_args, rlk, rs1, rs2, rdl, rky, rcd, rno, rsw, Value.category, List.filter, List.take, List.drop, List.reverse, List.reverseAux, List.cons_append, List.nil_append, Option.toList, Int.toNat, Int.reduceToNat, if_pos, if_neg, reduceIte, ↓reduceIte, Nat.reduceAdd, Nat.reduceEqDiff, Nat.reduceBEq, beq_self_eq_true, Bool.not_true, Bool.not_false, Bool.and_true, Bool.and_false, Bool.true_and, Bool.false_and, gI_sI, gI_sL, gI_sA, gI_sM, gL_sI, gL_sL, gL_sA, gL_sM, aI_sI, aI_sL, aI_sA, aI_sM, aL_sI, aL_sL, aL_sA, aL_sM, oi_1]; try dsimp only
                unfold Qv_flowStep
                try dsimp only
                have es : fsS σ c = ((sI (beS (coS σ ((aI σ 20) (c).toNatClampNeg) 0 (gI σ 103).toInt.toNat) (((nowR σ) &&& (coF σ ((aI σ 20) (c).toNatClampNeg) 0 (gI σ 103).toInt.toNat).1) &&& (Int64.ofInt (-1)))) 92 1), (c + 1)) := (fs_e40 (by show (aI σ 19 c.toNatClampNeg).toInt = 40; omega)).trans (by unfold fs_40; rw [if_pos (show 0 ≤ ((aI (coS σ ((aI σ 20) (c).toNatClampNeg) 0 (gI σ 103).toInt.toNat) 59) (((aI σ 20) (c).toNatClampNeg)).toNatClampNeg) from h301), if_pos (show (gI (beS (coS σ ((aI σ 20) (c).toNatClampNeg) 0 (gI σ 103).toInt.toNat) (((nowR σ) &&& (coF σ ((aI σ 20) (c).toNatClampNeg) 0 (gI σ 103).toInt.toNat).1) &&& (Int64.ofInt (-1)))) 92) = 0 from h305), if_pos (show (gI (beS (coS σ ((aI σ 20) (c).toNatClampNeg) 0 (gI σ 103).toInt.toNat) (((nowR σ) &&& (coF σ ((aI σ 20) (c).toNatClampNeg) 0 (gI σ 103).toInt.toNat).1) &&& (Int64.ofInt (-1)))) 116) = 0 from h310), if_neg (show ¬ (0 ≤ ((aI (beS (coS σ ((aI σ 20) (c).toNatClampNeg) 0 (gI σ 103).toInt.toNat) (((nowR σ) &&& (coF σ ((aI σ 20) (c).toNatClampNeg) 0 (gI σ 103).toInt.toNat).1) &&& (Int64.ofInt (-1)))) 59) (((aI σ 20) (c).toNatClampNeg)).toNatClampNeg)) from h316)])
                refine ⟨(gI σ 112), (gI σ 113), ⟨Or.inl, fun q => q.elim id (fun z => absurd z (fun z => z.elim (fun y => by omega) (fun y => by omega)))⟩, ?_, ?_⟩
                · rw [la_id]
                  exact (congrArg Prod.fst es).symm
                · rw [la_id]
                  exact congrArg (fun z => some (Value.int z)) (congrArg Prod.snd es).symm
        · refine hB _ _ _ _ _ (fun m323 hm323 => ?_)
          dsimp only [ugo, uwp, ust, uct, rfd, BflowStep, BflowStep_938, Nat.beq, lv_args, rlk, rs1, rs2, rdl, rky, rcd, rno, rsw, Value.category, List.filter, List.take, List.drop, List.reverse, List.reverseAux, List.cons_append, List.nil_append, Option.toList, Int.toNat, Int.reduceToNat, if_pos, if_neg, reduceIte, ↓reduceIte, Nat.reduceAdd, Nat.reduceEqDiff, Nat.reduceBEq, beq_self_eq_true, Bool.not_true, Bool.not_false, Bool.and_true, Bool.and_false, Bool.true_and, Bool.false_and, gI_sI, gI_sL, gI_sA, gI_sM, gL_sI, gL_sL, gL_sA, gL_sM, aI_sI, aI_sL, aI_sA, aI_sM, aL_sI, aL_sL, aL_sA, aL_sM]; try dsimp only
          intro p324
          refine hB _ _ _ _ _ (fun m325 hm325 => ?_)
          dsimp only [ugo, uwp, ust, uct, rfd, BflowStep, BflowStep_950, Nat.beq, lv_args, rlk, rs1, rs2, rdl, rky, rcd, rno, rsw, Value.category, List.filter, List.take, List.drop, List.reverse, List.reverseAux, List.cons_append, List.nil_append, Option.toList, Int.toNat, Int.reduceToNat, if_pos, if_neg, reduceIte, ↓reduceIte, Nat.reduceAdd, Nat.reduceEqDiff, Nat.reduceBEq, beq_self_eq_true, Bool.not_true, Bool.not_false, Bool.and_true, Bool.and_false, Bool.true_and, Bool.false_and, gI_sI, gI_sL, gI_sA, gI_sM, gL_sI, gL_sL, gL_sA, gL_sM, aI_sI, aI_sL, aI_sA, aI_sM, aL_sI, aL_sL, aL_sA, aL_sM]; try dsimp only
          refine ⟨trivial, fun w326 τ326 hq326 => ?_⟩
          obtain ⟨rfl, rfl⟩ := hq326 trivial
          dsimp only [Option.toList, List.cons_append, List.nil_append, Nat.beq, gI_sI, gI_sL, gI_sA, gI_sM, gL_sI, gL_sL, gL_sA, gL_sM, aI_sI, aI_sL, aI_sA, aI_sM, aL_sI, aL_sL, aL_sA, aL_sM]
          refine ⟨fun h327 => ?_, fun h327 => ?_⟩
          · refine hB _ _ _ _ _ (fun m328 hm328 => ?_)
            dsimp only [ugo, uwp, ust, uct, rfd, BflowStep, BflowStep_978, Nat.beq, lv_args, rlk, rs1, rs2, rdl, rky, rcd, rno, rsw, Value.category, List.filter, List.take, List.drop, List.reverse, List.reverseAux, List.cons_append, List.nil_append, Option.toList, Int.toNat, Int.reduceToNat, if_pos, if_neg, reduceIte, ↓reduceIte, Nat.reduceAdd, Nat.reduceEqDiff, Nat.reduceBEq, beq_self_eq_true, Bool.not_true, Bool.not_false, Bool.and_true, Bool.and_false, Bool.true_and, Bool.false_and, gI_sI, gI_sL, gI_sA, gI_sM, gL_sI, gL_sL, gL_sA, gL_sM, aI_sI, aI_sL, aI_sA, aI_sM, aL_sI, aL_sL, aL_sA, aL_sM, oi_1]; try dsimp only
            refine hB _ _ _ _ _ (fun m329 hm329 => ?_)
            dsimp only [ugo, uwp, ust, uct, rfd, BflowStep, BflowStep_983, Nat.beq, lv_args, rlk, rs1, rs2, rdl, rky, rcd, rno, rsw, Value.category, List.filter, List.take, List.drop, List.reverse, List.reverseAux, List.cons_append, List.nil_append, Option.toList, Int.toNat, Int.reduceToNat, if_pos, if_neg, reduceIte, ↓reduceIte, Nat.reduceAdd, Nat.reduceEqDiff, Nat.reduceBEq, beq_self_eq_true, Bool.not_true, Bool.not_false, Bool.and_true, Bool.and_false, Bool.true_and, Bool.false_and, gI_sI, gI_sL, gI_sA, gI_sM, gL_sI, gL_sL, gL_sA, gL_sM, aI_sI, aI_sL, aI_sA, aI_sM, aL_sI, aL_sL, aL_sA, aL_sM]; try dsimp only
            refine hB _ _ _ _ _ (fun m330 hm330 => ?_)
            dsimp only [ugo, uwp, ust, uct, rfd, BflowStep, BflowStep_1420, Nat.beq, lv_args, rlk, rs1, rs2, rdl, rky, rcd, rno, rsw, Value.category, List.filter, List.take, List.drop, List.reverse, List.reverseAux, List.cons_append, List.nil_append, Option.toList, Int.toNat, Int.reduceToNat, if_pos, if_neg, reduceIte, ↓reduceIte, Nat.reduceAdd, Nat.reduceEqDiff, Nat.reduceBEq, beq_self_eq_true, Bool.not_true, Bool.not_false, Bool.and_true, Bool.and_false, Bool.true_and, Bool.false_and, gI_sI, gI_sL, gI_sA, gI_sM, gL_sI, gL_sL, gL_sA, gL_sM, aI_sI, aI_sL, aI_sA, aI_sM, aL_sI, aL_sL, aL_sA, aL_sM, oi_1]; try dsimp only
            unfold Qv_flowStep
            try dsimp only
            have es : fsS σ c = ((sI (beS (coS σ ((aI σ 20) (c).toNatClampNeg) 0 (gI σ 103).toInt.toNat) (((nowR σ) &&& (coF σ ((aI σ 20) (c).toNatClampNeg) 0 (gI σ 103).toInt.toNat).1) &&& ((aL (coS σ ((aI σ 20) (c).toNatClampNeg) 0 (gI σ 103).toInt.toNat) 96) (((aI σ 20) (c).toNatClampNeg)).toNatClampNeg))) 92 1), (c + 1)) := (fs_e40 (by show (aI σ 19 c.toNatClampNeg).toInt = 40; omega)).trans (by unfold fs_40; rw [if_neg (show ¬ (0 ≤ ((aI (coS σ ((aI σ 20) (c).toNatClampNeg) 0 (gI σ 103).toInt.toNat) 59) (((aI σ 20) (c).toNatClampNeg)).toNatClampNeg)) from h301), if_neg (show ¬ ((gI (beS (coS σ ((aI σ 20) (c).toNatClampNeg) 0 (gI σ 103).toInt.toNat) (((nowR σ) &&& (coF σ ((aI σ 20) (c).toNatClampNeg) 0 (gI σ 103).toInt.toNat).1) &&& ((aL (coS σ ((aI σ 20) (c).toNatClampNeg) 0 (gI σ 103).toInt.toNat) 96) (((aI σ 20) (c).toNatClampNeg)).toNatClampNeg))) 92) = 0) from h327)])
            refine ⟨(gI σ 112), (gI σ 113), ⟨Or.inl, fun q => q.elim id (fun z => absurd z (fun z => z.elim (fun y => by omega) (fun y => by omega)))⟩, ?_, ?_⟩
            · rw [la_id]
              exact (congrArg Prod.fst es).symm
            · rw [la_id]
              exact congrArg (fun z => some (Value.int z)) (congrArg Prod.snd es).symm
          · refine hB _ _ _ _ _ (fun m331 hm331 => ?_)
            dsimp only [ugo, uwp, ust, uct, rfd, BflowStep, BflowStep_962, Nat.beq, lv_args, rlk, rs1, rs2, rdl, rky, rcd, rno, rsw, Value.category, List.filter, List.take, List.drop, List.reverse, List.reverseAux, List.cons_append, List.nil_append, Option.toList, Int.toNat, Int.reduceToNat, if_pos, if_neg, reduceIte, ↓reduceIte, Nat.reduceAdd, Nat.reduceEqDiff, Nat.reduceBEq, beq_self_eq_true, Bool.not_true, Bool.not_false, Bool.and_true, Bool.and_false, Bool.true_and, Bool.false_and, gI_sI, gI_sL, gI_sA, gI_sM, gL_sI, gL_sL, gL_sA, gL_sM, aI_sI, aI_sL, aI_sA, aI_sM, aL_sI, aL_sL, aL_sA, aL_sM]; try dsimp only
            refine ⟨fun h332 => ?_, fun h332 => ?_⟩
            · refine hB _ _ _ _ _ (fun m333 hm333 => ?_)
              dsimp only [ugo, uwp, ust, uct, rfd, BflowStep, BflowStep_978, Nat.beq, lv_args, rlk, rs1, rs2, rdl, rky, rcd, rno, rsw, Value.category, List.filter, List.take, List.drop, List.reverse, List.reverseAux, List.cons_append, List.nil_append, Option.toList, Int.toNat, Int.reduceToNat, if_pos, if_neg, reduceIte, ↓reduceIte, Nat.reduceAdd, Nat.reduceEqDiff, Nat.reduceBEq, beq_self_eq_true, Bool.not_true, Bool.not_false, Bool.and_true, Bool.and_false, Bool.true_and, Bool.false_and, gI_sI, gI_sL, gI_sA, gI_sM, gL_sI, gL_sL, gL_sA, gL_sM, aI_sI, aI_sL, aI_sA, aI_sM, aL_sI, aL_sL, aL_sA, aL_sM, oi_1]; try dsimp only
              refine hB _ _ _ _ _ (fun m334 hm334 => ?_)
              dsimp only [ugo, uwp, ust, uct, rfd, BflowStep, BflowStep_983, Nat.beq, lv_args, rlk, rs1, rs2, rdl, rky, rcd, rno, rsw, Value.category, List.filter, List.take, List.drop, List.reverse, List.reverseAux, List.cons_append, List.nil_append, Option.toList, Int.toNat, Int.reduceToNat, if_pos, if_neg, reduceIte, ↓reduceIte, Nat.reduceAdd, Nat.reduceEqDiff, Nat.reduceBEq, beq_self_eq_true, Bool.not_true, Bool.not_false, Bool.and_true, Bool.and_false, Bool.true_and, Bool.false_and, gI_sI, gI_sL, gI_sA, gI_sM, gL_sI, gL_sL, gL_sA, gL_sM, aI_sI, aI_sL, aI_sA, aI_sM, aL_sI, aL_sL, aL_sA, aL_sM]; try dsimp only
              refine hB _ _ _ _ _ (fun m335 hm335 => ?_)
              dsimp only [ugo, uwp, ust, uct, rfd, BflowStep, BflowStep_1420, Nat.beq, lv_args, rlk, rs1, rs2, rdl, rky, rcd, rno, rsw, Value.category, List.filter, List.take, List.drop, List.reverse, List.reverseAux, List.cons_append, List.nil_append, Option.toList, Int.toNat, Int.reduceToNat, if_pos, if_neg, reduceIte, ↓reduceIte, Nat.reduceAdd, Nat.reduceEqDiff, Nat.reduceBEq, beq_self_eq_true, Bool.not_true, Bool.not_false, Bool.and_true, Bool.and_false, Bool.true_and, Bool.false_and, gI_sI, gI_sL, gI_sA, gI_sM, gL_sI, gL_sL, gL_sA, gL_sM, aI_sI, aI_sL, aI_sA, aI_sM, aL_sI, aL_sL, aL_sA, aL_sM, oi_1]; try dsimp only
              unfold Qv_flowStep
              try dsimp only
              have es : fsS σ c = ((sI (beS (coS σ ((aI σ 20) (c).toNatClampNeg) 0 (gI σ 103).toInt.toNat) (((nowR σ) &&& (coF σ ((aI σ 20) (c).toNatClampNeg) 0 (gI σ 103).toInt.toNat).1) &&& ((aL (coS σ ((aI σ 20) (c).toNatClampNeg) 0 (gI σ 103).toInt.toNat) 96) (((aI σ 20) (c).toNatClampNeg)).toNatClampNeg))) 92 1), (c + 1)) := (fs_e40 (by show (aI σ 19 c.toNatClampNeg).toInt = 40; omega)).trans (by unfold fs_40; rw [if_neg (show ¬ (0 ≤ ((aI (coS σ ((aI σ 20) (c).toNatClampNeg) 0 (gI σ 103).toInt.toNat) 59) (((aI σ 20) (c).toNatClampNeg)).toNatClampNeg)) from h301), if_pos (show (gI (beS (coS σ ((aI σ 20) (c).toNatClampNeg) 0 (gI σ 103).toInt.toNat) (((nowR σ) &&& (coF σ ((aI σ 20) (c).toNatClampNeg) 0 (gI σ 103).toInt.toNat).1) &&& ((aL (coS σ ((aI σ 20) (c).toNatClampNeg) 0 (gI σ 103).toInt.toNat) 96) (((aI σ 20) (c).toNatClampNeg)).toNatClampNeg))) 92) = 0 from h327), if_neg (show ¬ ((gI (beS (coS σ ((aI σ 20) (c).toNatClampNeg) 0 (gI σ 103).toInt.toNat) (((nowR σ) &&& (coF σ ((aI σ 20) (c).toNatClampNeg) 0 (gI σ 103).toInt.toNat).1) &&& ((aL (coS σ ((aI σ 20) (c).toNatClampNeg) 0 (gI σ 103).toInt.toNat) 96) (((aI σ 20) (c).toNatClampNeg)).toNatClampNeg))) 116) = 0) from h332)])
              refine ⟨(gI σ 112), (gI σ 113), ⟨Or.inl, fun q => q.elim id (fun z => absurd z (fun z => z.elim (fun y => by omega) (fun y => by omega)))⟩, ?_, ?_⟩
              · rw [la_id]
                exact (congrArg Prod.fst es).symm
              · rw [la_id]
                exact congrArg (fun z => some (Value.int z)) (congrArg Prod.snd es).symm
            · refine hB _ _ _ _ _ (fun m336 hm336 => ?_)
              dsimp only [ugo, uwp, ust, uct, rfd, BflowStep, BflowStep_969, Nat.beq, lv_args, rlk, rs1, rs2, rdl, rky, rcd, rno, rsw, Value.category, List.filter, List.take, List.drop, List.reverse, List.reverseAux, List.cons_append, List.nil_append, Option.toList, Int.toNat, Int.reduceToNat, if_pos, if_neg, reduceIte, ↓reduceIte, Nat.reduceAdd, Nat.reduceEqDiff, Nat.reduceBEq, beq_self_eq_true, Bool.not_true, Bool.not_false, Bool.and_true, Bool.and_false, Bool.true_and, Bool.false_and, gI_sI, gI_sL, gI_sA, gI_sM, gL_sI, gL_sL, gL_sA, gL_sM, aI_sI, aI_sL, aI_sA, aI_sM, aL_sI, aL_sL, aL_sA, aL_sM]; try dsimp only
              intro p337
              refine ⟨fun h338 => ?_, fun h338 => ?_⟩
              · refine hB _ _ _ _ _ (fun m339 hm339 => ?_)
                dsimp only [ugo, uwp, ust, uct, rfd, BflowStep, BflowStep_982, Nat.beq, lv_args, rlk, rs1, rs2, rdl, rky, rcd, rno, rsw, Value.category, List.filter, List.take, List.drop, List.reverse, List.reverseAux, List.cons_append, List.nil_append, Option.toList, Int.toNat, Int.reduceToNat, if_pos, if_neg, reduceIte, ↓reduceIte, Nat.reduceAdd, Nat.reduceEqDiff, Nat.reduceBEq, beq_self_eq_true, Bool.not_true, Bool.not_false, Bool.and_true, Bool.and_false, Bool.true_and, Bool.false_and, gI_sI, gI_sL, gI_sA, gI_sM, gL_sI, gL_sL, gL_sA, gL_sM, aI_sI, aI_sL, aI_sA, aI_sM, aL_sI, aL_sL, aL_sA, aL_sM, oi_0]; try dsimp only
                refine hB _ _ _ _ _ (fun m340 hm340 => ?_)
                dsimp only [ugo, uwp, ust, uct, rfd, BflowStep, BflowStep_983, Nat.beq, lv_args, rlk, rs1, rs2, rdl, rky, rcd, rno, rsw, Value.category, List.filter, List.take, List.drop, List.reverse, List.reverseAux, List.cons_append, List.nil_append, Option.toList, Int.toNat, Int.reduceToNat, if_pos, if_neg, reduceIte, ↓reduceIte, Nat.reduceAdd, Nat.reduceEqDiff, Nat.reduceBEq, beq_self_eq_true, Bool.not_true, Bool.not_false, Bool.and_true, Bool.and_false, Bool.true_and, Bool.false_and, gI_sI, gI_sL, gI_sA, gI_sM, gL_sI, gL_sL, gL_sA, gL_sM, aI_sI, aI_sL, aI_sA, aI_sM, aL_sI, aL_sL, aL_sA, aL_sM]; try dsimp only
                refine hB _ _ _ _ _ (fun m341 hm341 => ?_)
                dsimp only [ugo, uwp, ust, uct, rfd, BflowStep, BflowStep_1420, Nat.beq, lv_args, rlk, rs1, rs2, rdl, rky, rcd, rno, rsw, Value.category, List.filter, List.take, List.drop, List.reverse, List.reverseAux, List.cons_append, List.nil_append, Option.toList, Int.toNat, Int.reduceToNat, if_pos, if_neg, reduceIte, ↓reduceIte, Nat.reduceAdd, Nat.reduceEqDiff, Nat.reduceBEq, beq_self_eq_true, Bool.not_true, Bool.not_false, Bool.and_true, Bool.and_false, Bool.true_and, Bool.false_and, gI_sI, gI_sL, gI_sA, gI_sM, gL_sI, gL_sL, gL_sA, gL_sM, aI_sI, aI_sL, aI_sA, aI_sM, aL_sI, aL_sL, aL_sA, aL_sM, oi_1]; try dsimp only
                unfold Qv_flowStep
                try dsimp only
                have es : fsS σ c = ((sI (beS (coS σ ((aI σ 20) (c).toNatClampNeg) 0 (gI σ 103).toInt.toNat) (((nowR σ) &&& (coF σ ((aI σ 20) (c).toNatClampNeg) 0 (gI σ 103).toInt.toNat).1) &&& ((aL (coS σ ((aI σ 20) (c).toNatClampNeg) 0 (gI σ 103).toInt.toNat) 96) (((aI σ 20) (c).toNatClampNeg)).toNatClampNeg))) 92 0), (c + 1)) := (fs_e40 (by show (aI σ 19 c.toNatClampNeg).toInt = 40; omega)).trans (by unfold fs_40; rw [if_neg (show ¬ (0 ≤ ((aI (coS σ ((aI σ 20) (c).toNatClampNeg) 0 (gI σ 103).toInt.toNat) 59) (((aI σ 20) (c).toNatClampNeg)).toNatClampNeg)) from h301), if_pos (show (gI (beS (coS σ ((aI σ 20) (c).toNatClampNeg) 0 (gI σ 103).toInt.toNat) (((nowR σ) &&& (coF σ ((aI σ 20) (c).toNatClampNeg) 0 (gI σ 103).toInt.toNat).1) &&& ((aL (coS σ ((aI σ 20) (c).toNatClampNeg) 0 (gI σ 103).toInt.toNat) 96) (((aI σ 20) (c).toNatClampNeg)).toNatClampNeg))) 92) = 0 from h327), if_pos (show (gI (beS (coS σ ((aI σ 20) (c).toNatClampNeg) 0 (gI σ 103).toInt.toNat) (((nowR σ) &&& (coF σ ((aI σ 20) (c).toNatClampNeg) 0 (gI σ 103).toInt.toNat).1) &&& ((aL (coS σ ((aI σ 20) (c).toNatClampNeg) 0 (gI σ 103).toInt.toNat) 96) (((aI σ 20) (c).toNatClampNeg)).toNatClampNeg))) 116) = 0 from h332), if_pos (show 0 ≤ ((aI (beS (coS σ ((aI σ 20) (c).toNatClampNeg) 0 (gI σ 103).toInt.toNat) (((nowR σ) &&& (coF σ ((aI σ 20) (c).toNatClampNeg) 0 (gI σ 103).toInt.toNat).1) &&& ((aL (coS σ ((aI σ 20) (c).toNatClampNeg) 0 (gI σ 103).toInt.toNat) 96) (((aI σ 20) (c).toNatClampNeg)).toNatClampNeg))) 59) (((aI σ 20) (c).toNatClampNeg)).toNatClampNeg) from h338)])
                refine ⟨(gI σ 112), (gI σ 113), ⟨Or.inl, fun q => q.elim id (fun z => absurd z (fun z => z.elim (fun y => by omega) (fun y => by omega)))⟩, ?_, ?_⟩
                · rw [la_id]
                  exact (congrArg Prod.fst es).symm
                · rw [la_id]
                  exact congrArg (fun z => some (Value.int z)) (congrArg Prod.snd es).symm
              · refine hB _ _ _ _ _ (fun m342 hm342 => ?_)
                dsimp only [ugo, uwp, ust, uct, rfd, BflowStep, BflowStep_978, Nat.beq, lv_args, rlk, rs1, rs2, rdl, rky, rcd, rno, rsw, Value.category, List.filter, List.take, List.drop, List.reverse, List.reverseAux, List.cons_append, List.nil_append, Option.toList, Int.toNat, Int.reduceToNat, if_pos, if_neg, reduceIte, ↓reduceIte, Nat.reduceAdd, Nat.reduceEqDiff, Nat.reduceBEq, beq_self_eq_true, Bool.not_true, Bool.not_false, Bool.and_true, Bool.and_false, Bool.true_and, Bool.false_and, gI_sI, gI_sL, gI_sA, gI_sM, gL_sI, gL_sL, gL_sA, gL_sM, aI_sI, aI_sL, aI_sA, aI_sM, aL_sI, aL_sL, aL_sA, aL_sM, oi_1]; try dsimp only
                refine hB _ _ _ _ _ (fun m343 hm343 => ?_)
                dsimp only [ugo, uwp, ust, uct, rfd, BflowStep, BflowStep_983, Nat.beq, lv_args, rlk, rs1, rs2, rdl, rky, rcd, rno, rsw, Value.category, List.filter, List.take, List.drop, List.reverse, List.reverseAux, List.cons_append, List.nil_append, Option.toList, Int.toNat, Int.reduceToNat, if_pos, if_neg, reduceIte, ↓reduceIte, Nat.reduceAdd, Nat.reduceEqDiff, Nat.reduceBEq, beq_self_eq_true, Bool.not_true, Bool.not_false, Bool.and_true, Bool.and_false, Bool.true_and, Bool.false_and, gI_sI, gI_sL, gI_sA, gI_sM, gL_sI, gL_sL, gL_sA, gL_sM, aI_sI, aI_sL, aI_sA, aI_sM, aL_sI, aL_sL, aL_sA, aL_sM]; try dsimp only
                refine hB _ _ _ _ _ (fun m344 hm344 => ?_)
                dsimp only [ugo, uwp, ust, uct, rfd, BflowStep, BflowStep_1420, Nat.beq, lv_args, rlk, rs1, rs2, rdl, rky, rcd, rno, rsw, Value.category, List.filter, List.take, List.drop, List.reverse, List.reverseAux, List.cons_append, List.nil_append, Option.toList, Int.toNat, Int.reduceToNat, if_pos, if_neg, reduceIte, ↓reduceIte, Nat.reduceAdd, Nat.reduceEqDiff, Nat.reduceBEq, beq_self_eq_true, Bool.not_true, Bool.not_false, Bool.and_true, Bool.and_false, Bool.true_and, Bool.false_and, gI_sI, gI_sL, gI_sA, gI_sM, gL_sI, gL_sL, gL_sA, gL_sM, aI_sI, aI_sL, aI_sA, aI_sM, aL_sI, aL_sL, aL_sA, aL_sM, oi_1]; try dsimp only
                unfold Qv_flowStep
                try dsimp only
                have es : fsS σ c = ((sI (beS (coS σ ((aI σ 20) (c).toNatClampNeg) 0 (gI σ 103).toInt.toNat) (((nowR σ) &&& (coF σ ((aI σ 20) (c).toNatClampNeg) 0 (gI σ 103).toInt.toNat).1) &&& ((aL (coS σ ((aI σ 20) (c).toNatClampNeg) 0 (gI σ 103).toInt.toNat) 96) (((aI σ 20) (c).toNatClampNeg)).toNatClampNeg))) 92 1), (c + 1)) := (fs_e40 (by show (aI σ 19 c.toNatClampNeg).toInt = 40; omega)).trans (by unfold fs_40; rw [if_neg (show ¬ (0 ≤ ((aI (coS σ ((aI σ 20) (c).toNatClampNeg) 0 (gI σ 103).toInt.toNat) 59) (((aI σ 20) (c).toNatClampNeg)).toNatClampNeg)) from h301), if_pos (show (gI (beS (coS σ ((aI σ 20) (c).toNatClampNeg) 0 (gI σ 103).toInt.toNat) (((nowR σ) &&& (coF σ ((aI σ 20) (c).toNatClampNeg) 0 (gI σ 103).toInt.toNat).1) &&& ((aL (coS σ ((aI σ 20) (c).toNatClampNeg) 0 (gI σ 103).toInt.toNat) 96) (((aI σ 20) (c).toNatClampNeg)).toNatClampNeg))) 92) = 0 from h327), if_pos (show (gI (beS (coS σ ((aI σ 20) (c).toNatClampNeg) 0 (gI σ 103).toInt.toNat) (((nowR σ) &&& (coF σ ((aI σ 20) (c).toNatClampNeg) 0 (gI σ 103).toInt.toNat).1) &&& ((aL (coS σ ((aI σ 20) (c).toNatClampNeg) 0 (gI σ 103).toInt.toNat) 96) (((aI σ 20) (c).toNatClampNeg)).toNatClampNeg))) 116) = 0 from h332), if_neg (show ¬ (0 ≤ ((aI (beS (coS σ ((aI σ 20) (c).toNatClampNeg) 0 (gI σ 103).toInt.toNat) (((nowR σ) &&& (coF σ ((aI σ 20) (c).toNatClampNeg) 0 (gI σ 103).toInt.toNat).1) &&& ((aL (coS σ ((aI σ 20) (c).toNatClampNeg) 0 (gI σ 103).toInt.toNat) 96) (((aI σ 20) (c).toNatClampNeg)).toNatClampNeg))) 59) (((aI σ 20) (c).toNatClampNeg)).toNatClampNeg)) from h338)])
                refine ⟨(gI σ 112), (gI σ 113), ⟨Or.inl, fun q => q.elim id (fun z => absurd z (fun z => z.elim (fun y => by omega) (fun y => by omega)))⟩, ?_, ?_⟩
                · rw [la_id]
                  exact (congrArg Prod.fst es).symm
                · rw [la_id]
                  exact congrArg (fun z => some (Value.int z)) (congrArg Prod.snd es).symm
      have c296 : ¬ (aI σ 19 c.toNatClampNeg).toInt = 40 := fun q => h296 ((rfl : (aI σ 19 c.toNatClampNeg).toInt = (aI σ 19 c.toNatClampNeg).toInt).trans q)
      refine ⟨fun h345 => ?_, fun h345 => ?_⟩
      · have c345 : (aI σ 19 c.toNatClampNeg).toInt = 41 := (rfl : (aI σ 19 c.toNatClampNeg).toInt = (aI σ 19 c.toNatClampNeg).toInt).symm.trans h345
        refine hB _ _ _ _ _ (fun m346 hm346 => ?_)
        dsimp only [ugo, uwp, ust, uct, rfd, BflowStep, BflowStep_1420, Nat.beq, lv_args, rlk, rs1, rs2, rdl, rky, rcd, rno, rsw, Value.category, List.filter, List.take, List.drop, List.reverse, List.reverseAux, List.cons_append, List.nil_append, Option.toList, Int.toNat, Int.reduceToNat, if_pos, if_neg, reduceIte, ↓reduceIte, Nat.reduceAdd, Nat.reduceEqDiff, Nat.reduceBEq, beq_self_eq_true, Bool.not_true, Bool.not_false, Bool.and_true, Bool.and_false, Bool.true_and, Bool.false_and, gI_sI, gI_sL, gI_sA, gI_sM, gL_sI, gL_sL, gL_sA, gL_sM, aI_sI, aI_sL, aI_sA, aI_sM, aL_sI, aL_sL, aL_sA, aL_sM, oi_1]; try dsimp only
        unfold Qv_flowStep
        try dsimp only
        have es : fsS σ c = (σ, (c + 1)) := fs_d (by show ¬ ((20 ≤ (aI σ 19 c.toNatClampNeg).toInt ∧ (aI σ 19 c.toNatClampNeg).toInt ≤ 25) ∨ (aI σ 19 c.toNatClampNeg).toInt = 27 ∨ (aI σ 19 c.toNatClampNeg).toInt = 28 ∨ (aI σ 19 c.toNatClampNeg).toInt = 30 ∨ (aI σ 19 c.toNatClampNeg).toInt = 31 ∨ (aI σ 19 c.toNatClampNeg).toInt = 33 ∨ (aI σ 19 c.toNatClampNeg).toInt = 35 ∨ (aI σ 19 c.toNatClampNeg).toInt = 36 ∨ (aI σ 19 c.toNatClampNeg).toInt = 37 ∨ (aI σ 19 c.toNatClampNeg).toInt = 38 ∨ (aI σ 19 c.toNatClampNeg).toInt = 39 ∨ (aI σ 19 c.toNatClampNeg).toInt = 40 ∨ (aI σ 19 c.toNatClampNeg).toInt = 42 ∨ (aI σ 19 c.toNatClampNeg).toInt = 45 ∨ (aI σ 19 c.toNatClampNeg).toInt = 46 ∨ (aI σ 19 c.toNatClampNeg).toInt = 47 ∨ (aI σ 19 c.toNatClampNeg).toInt = 48 ∨ (aI σ 19 c.toNatClampNeg).toInt = 49 ∨ (aI σ 19 c.toNatClampNeg).toInt = 50 ∨ (aI σ 19 c.toNatClampNeg).toInt = 51 ∨ (aI σ 19 c.toNatClampNeg).toInt = 52 ∨ (aI σ 19 c.toNatClampNeg).toInt = 53); omega)
        refine ⟨(gI σ 112), (gI σ 113), ⟨Or.inl, fun q => q.elim id (fun z => absurd z (fun z => z.elim (fun y => by omega) (fun y => by omega)))⟩, ?_, ?_⟩
        · rw [la_id]
          exact (congrArg Prod.fst es).symm
        · rw [la_id]
          exact congrArg (fun z => some (Value.int z)) (congrArg Prod.snd es).symm
      have c345 : ¬ (aI σ 19 c.toNatClampNeg).toInt = 41 := fun q => h345 ((rfl : (aI σ 19 c.toNatClampNeg).toInt = (aI σ 19 c.toNatClampNeg).toInt).trans q)
      refine ⟨fun h347 => ?_, fun h347 => ?_⟩
      · have c347 : (aI σ 19 c.toNatClampNeg).toInt = 42 := (rfl : (aI σ 19 c.toNatClampNeg).toInt = (aI σ 19 c.toNatClampNeg).toInt).symm.trans h347
        refine hB _ _ _ _ _ (fun m348 hm348 => ?_)
        dsimp only [ugo, uwp, ust, uct, rfd, BflowStep, BflowStep_989, Nat.beq, lv_args, rlk, rs1, rs2, rdl, rky, rcd, rno, rsw, Value.category, List.filter, List.take, List.drop, List.reverse, List.reverseAux, List.cons_append, List.nil_append, Option.toList, Int.toNat, Int.reduceToNat, if_pos, if_neg, reduceIte, ↓reduceIte, Nat.reduceAdd, Nat.reduceEqDiff, Nat.reduceBEq, beq_self_eq_true, Bool.not_true, Bool.not_false, Bool.and_true, Bool.and_false, Bool.true_and, Bool.false_and, gI_sI, gI_sL, gI_sA, gI_sM, gL_sI, gL_sL, gL_sA, gL_sM, aI_sI, aI_sL, aI_sA, aI_sM, aL_sI, aL_sL, aL_sA, aL_sM, oi_0]; try dsimp only
        refine ⟨trivial, fun w349 τ349 hq349 => ?_⟩
        obtain ⟨rfl, rfl⟩ := hq349 trivial
        dsimp only [Option.toList, List.cons_append, List.nil_append, Nat.beq, gI_sI, gI_sL, gI_sA, gI_sM, gL_sI, gL_sL, gL_sA, gL_sM, aI_sI, aI_sL, aI_sA, aI_sM, aL_sI, aL_sL, aL_sA, aL_sM]
        refine ⟨trivial, fun w350 τ350 hq350 => ?_⟩
        obtain ⟨rfl, _, rfl, rfl⟩ := hq350 trivial
        dsimp only [Option.toList, List.cons_append, List.nil_append, Nat.beq, gI_sI, gI_sL, gI_sA, gI_sM, gL_sI, gL_sL, gL_sA, gL_sM, aI_sI, aI_sL, aI_sA, aI_sM, aL_sI, aL_sL, aL_sA, aL_sM]
        refine ⟨trivial, fun w351 τ351 hq351 => ?_⟩
        obtain ⟨rfl, rfl⟩ := hq351 trivial
        dsimp only [Option.toList, List.cons_append, List.nil_append, Nat.beq, gI_sI, gI_sL, gI_sA, gI_sM, gL_sI, gL_sL, gL_sA, gL_sM, aI_sI, aI_sL, aI_sA, aI_sM, aL_sI, aL_sL, aL_sA, aL_sM]
        refine ⟨fun h352 => ?_, fun h352 => ?_⟩
        · refine hB _ _ _ _ _ (fun m353 hm353 => ?_)
          dsimp only [ugo, uwp, ust, uct, rfd, BflowStep, BflowStep_1019, Nat.beq, lv_args, rlk, rs1, rs2, rdl, rky, rcd, rno, rsw, Value.category, List.filter, List.take, List.drop, List.reverse, List.reverseAux, List.cons_append, List.nil_append, Option.toList, Int.toNat, Int.reduceToNat, if_pos, if_neg, reduceIte, ↓reduceIte, Nat.reduceAdd, Nat.reduceEqDiff, Nat.reduceBEq, beq_self_eq_true, Bool.not_true, Bool.not_false, Bool.and_true, Bool.and_false, Bool.true_and, Bool.false_and, gI_sI, gI_sL, gI_sA, gI_sM, gL_sI, gL_sL, gL_sA, gL_sM, aI_sI, aI_sL, aI_sA, aI_sM, aL_sI, aL_sL, aL_sA, aL_sM, oi_1]; try dsimp only
          refine hB _ _ _ _ _ (fun m354 hm354 => ?_)
          dsimp only [ugo, uwp, ust, uct, rfd, BflowStep, BflowStep_1024, Nat.beq, lv_args, rlk, rs1, rs2, rdl, rky, rcd, rno, rsw, Value.category, List.filter, List.take, List.drop, List.reverse, List.reverseAux, List.cons_append, List.nil_append, Option.toList, Int.toNat, Int.reduceToNat, if_pos, if_neg, reduceIte, ↓reduceIte, Nat.reduceAdd, Nat.reduceEqDiff, Nat.reduceBEq, beq_self_eq_true, Bool.not_true, Bool.not_false, Bool.and_true, Bool.and_false, Bool.true_and, Bool.false_and, gI_sI, gI_sL, gI_sA, gI_sM, gL_sI, gL_sL, gL_sA, gL_sM, aI_sI, aI_sL, aI_sA, aI_sM, aL_sI, aL_sL, aL_sA, aL_sM]; try dsimp only
          refine hB _ _ _ _ _ (fun m355 hm355 => ?_)
          dsimp only [ugo, uwp, ust, uct, rfd, BflowStep, BflowStep_1420, Nat.beq, lv_args, rlk, rs1, rs2, rdl, rky, rcd, rno, rsw, Value.category, List.filter, List.take, List.drop, List.reverse, List.reverseAux, List.cons_append, List.nil_append, Option.toList, Int.toNat, Int.reduceToNat, if_pos, if_neg, reduceIte, ↓reduceIte, Nat.reduceAdd, Nat.reduceEqDiff, Nat.reduceBEq, beq_self_eq_true, Bool.not_true, Bool.not_false, Bool.and_true, Bool.and_false, Bool.true_and, Bool.false_and, gI_sI, gI_sL, gI_sA, gI_sM, gL_sI, gL_sL, gL_sA, gL_sM, aI_sI, aI_sL, aI_sA, aI_sM, aL_sI, aL_sL, aL_sA, aL_sM, oi_1]; try dsimp only
          unfold Qv_flowStep
          try dsimp only
          have es : fsS σ c = ((sI (beS (coS σ ((aI σ 20) (c).toNatClampNeg) 0 (gI σ 103).toInt.toNat) ((nowR σ) &&& (coF σ ((aI σ 20) (c).toNatClampNeg) 0 (gI σ 103).toInt.toNat).1)) 92 1), (c + 1)) := (fs_e42 (by show (aI σ 19 c.toNatClampNeg).toInt = 42; omega)).trans (by unfold fs_42; rw [if_neg (show ¬ ((gI (beS (coS σ ((aI σ 20) (c).toNatClampNeg) 0 (gI σ 103).toInt.toNat) ((nowR σ) &&& (coF σ ((aI σ 20) (c).toNatClampNeg) 0 (gI σ 103).toInt.toNat).1)) 92) = 0) from h352)])
          refine ⟨(gI σ 112), (gI σ 113), ⟨Or.inl, fun q => q.elim id (fun z => absurd z (fun z => z.elim (fun y => by omega) (fun y => by omega)))⟩, ?_, ?_⟩
          · rw [la_id]
            exact (congrArg Prod.fst es).symm
          · rw [la_id]
            exact congrArg (fun z => some (Value.int z)) (congrArg Prod.snd es).symm
        · refine hB _ _ _ _ _ (fun m356 hm356 => ?_)
          dsimp only [ugo, uwp, ust, uct, rfd, BflowStep, BflowStep_1012, Nat.beq, lv_args, rlk, rs1, rs2, rdl, rky, rcd, rno, rsw, Value.category, List.filter, List.take, List.drop, List.reverse, List.reverseAux, List.cons_append, List.nil_append, Option.toList, Int.toNat, Int.reduceToNat, if_pos, if_neg, reduceIte, ↓reduceIte, Nat.reduceAdd, Nat.reduceEqDiff, Nat.reduceBEq, beq_self_eq_true, Bool.not_true, Bool.not_false, Bool.and_true, Bool.and_false, Bool.true_and, Bool.false_and, gI_sI, gI_sL, gI_sA, gI_sM, gL_sI, gL_sL, gL_sA, gL_sM, aI_sI, aI_sL, aI_sA, aI_sM, aL_sI, aL_sL, aL_sA, aL_sM]; try dsimp only
          refine ⟨fun h357 => ?_, fun h357 => ?_⟩
          · refine hB _ _ _ _ _ (fun m358 hm358 => ?_)
            dsimp only [ugo, uwp, ust, uct, rfd, BflowStep, BflowStep_1023, Nat.beq, lv_args, rlk, rs1, rs2, rdl, rky, rcd, rno, rsw, Value.category, List.filter, List.take, List.drop, List.reverse, List.reverseAux, List.cons_append, List.nil_append, Option.toList, Int.toNat, Int.reduceToNat, if_pos, if_neg, reduceIte, ↓reduceIte, Nat.reduceAdd, Nat.reduceEqDiff, Nat.reduceBEq, beq_self_eq_true, Bool.not_true, Bool.not_false, Bool.and_true, Bool.and_false, Bool.true_and, Bool.false_and, gI_sI, gI_sL, gI_sA, gI_sM, gL_sI, gL_sL, gL_sA, gL_sM, aI_sI, aI_sL, aI_sA, aI_sM, aL_sI, aL_sL, aL_sA, aL_sM, oi_0]; try dsimp only
            refine hB _ _ _ _ _ (fun m359 hm359 => ?_)
            dsimp only [ugo, uwp, ust, uct, rfd, BflowStep, BflowStep_1024, Nat.beq, lv_args, rlk, rs1, rs2, rdl, rky, rcd, rno, rsw, Value.category, List.filter, List.take, List.drop, List.reverse, List.reverseAux, List.cons_append, List.nil_append, Option.toList, Int.toNat, Int.reduceToNat, if_pos, if_neg, reduceIte, ↓reduceIte, Nat.reduceAdd, Nat.reduceEqDiff, Nat.reduceBEq, beq_self_eq_true, Bool.not_true, Bool.not_false, Bool.and_true, Bool.and_false, Bool.true_and, Bool.false_and, gI_sI, gI_sL, gI_sA, gI_sM, gL_sI, gL_sL, gL_sA, gL_sM, aI_sI, aI_sL, aI_sA, aI_sM, aL_sI, aL_sL, aL_sA, aL_sM]; try dsimp only
            refine hB _ _ _ _ _ (fun m360 hm360 => ?_)
            dsimp only [ugo, uwp, ust, uct, rfd, BflowStep, BflowStep_1420, Nat.beq, lv_args, rlk, rs1, rs2, rdl, rky, rcd, rno, rsw, Value.category, List.filter, List.take, List.drop, List.reverse, List.reverseAux, List.cons_append, List.nil_append, Option.toList, Int.toNat, Int.reduceToNat, if_pos, if_neg, reduceIte, ↓reduceIte, Nat.reduceAdd, Nat.reduceEqDiff, Nat.reduceBEq, beq_self_eq_true, Bool.not_true, Bool.not_false, Bool.and_true, Bool.and_false, Bool.true_and, Bool.false_and, gI_sI, gI_sL, gI_sA, gI_sM, gL_sI, gL_sL, gL_sA, gL_sM, aI_sI, aI_sL, aI_sA, aI_sM, aL_sI, aL_sL, aL_sA, aL_sM, oi_1]; try dsimp only
            unfold Qv_flowStep
            try dsimp only
            have es : fsS σ c = ((sI (beS (coS σ ((aI σ 20) (c).toNatClampNeg) 0 (gI σ 103).toInt.toNat) ((nowR σ) &&& (coF σ ((aI σ 20) (c).toNatClampNeg) 0 (gI σ 103).toInt.toNat).1)) 92 0), (c + 1)) := (fs_e42 (by show (aI σ 19 c.toNatClampNeg).toInt = 42; omega)).trans (by unfold fs_42; rw [if_pos (show (gI (beS (coS σ ((aI σ 20) (c).toNatClampNeg) 0 (gI σ 103).toInt.toNat) ((nowR σ) &&& (coF σ ((aI σ 20) (c).toNatClampNeg) 0 (gI σ 103).toInt.toNat).1)) 92) = 0 from h352), if_pos (show (gI (beS (coS σ ((aI σ 20) (c).toNatClampNeg) 0 (gI σ 103).toInt.toNat) ((nowR σ) &&& (coF σ ((aI σ 20) (c).toNatClampNeg) 0 (gI σ 103).toInt.toNat).1)) 116) = 0 from h357)])
            refine ⟨(gI σ 112), (gI σ 113), ⟨Or.inl, fun q => q.elim id (fun z => absurd z (fun z => z.elim (fun y => by omega) (fun y => by omega)))⟩, ?_, ?_⟩
            · rw [la_id]
              exact (congrArg Prod.fst es).symm
            · rw [la_id]
              exact congrArg (fun z => some (Value.int z)) (congrArg Prod.snd es).symm
          · refine hB _ _ _ _ _ (fun m361 hm361 => ?_)
            dsimp only [ugo, uwp, ust, uct, rfd, BflowStep, BflowStep_1019, Nat.beq, lv_args, rlk, rs1, rs2, rdl, rky, rcd, rno, rsw, Value.category, List.filter, List.take, List.drop, List.reverse, List.reverseAux, List.cons_append, List.nil_append, Option.toList, Int.toNat, Int.reduceToNat, if_pos, if_neg, reduceIte, ↓reduceIte, Nat.reduceAdd, Nat.reduceEqDiff, Nat.reduceBEq, beq_self_eq_true, Bool.not_true, Bool.not_false, Bool.and_true, Bool.and_false, Bool.true_and, Bool.false_and, gI_sI, gI_sL, gI_sA, gI_sM, gL_sI, gL_sL, gL_sA, gL_sM, aI_sI, aI_sL, aI_sA, aI_sM, aL_sI, aL_sL, aL_sA, aL_sM, oi_1]; try dsimp only
            refine hB _ _ _ _ _ (fun m362 hm362 => ?_)
            dsimp only [ugo, uwp, ust, uct, rfd, BflowStep, BflowStep_1024, Nat.beq, lv_args, rlk, rs1, rs2, rdl, rky, rcd, rno, rsw, Value.category, List.filter, List.take, List.drop, List.reverse, List.reverseAux, List.cons_append, List.nil_append, Option.toList, Int.toNat, Int.reduceToNat, if_pos, if_neg, reduceIte, ↓reduceIte, Nat.reduceAdd, Nat.reduceEqDiff, Nat.reduceBEq, beq_self_eq_true, Bool.not_true, Bool.not_false, Bool.and_true, Bool.and_false, Bool.true_and, Bool.false_and, gI_sI, gI_sL, gI_sA, gI_sM, gL_sI, gL_sL, gL_sA, gL_sM, aI_sI, aI_sL, aI_sA, aI_sM, aL_sI, aL_sL, aL_sA, aL_sM]; try dsimp only
            refine hB _ _ _ _ _ (fun m363 hm363 => ?_)
            dsimp only [ugo, uwp, ust, uct, rfd, BflowStep, BflowStep_1420, Nat.beq, lv_args, rlk, rs1, rs2, rdl, rky, rcd, rno, rsw, Value.category, List.filter, List.take, List.drop, List.reverse, List.reverseAux, List.cons_append, List.nil_append, Option.toList, Int.toNat, Int.reduceToNat, if_pos, if_neg, reduceIte, ↓reduceIte, Nat.reduceAdd, Nat.reduceEqDiff, Nat.reduceBEq, beq_self_eq_true, Bool.not_true, Bool.not_false, Bool.and_true, Bool.and_false, Bool.true_and, Bool.false_and, gI_sI, gI_sL, gI_sA, gI_sM, gL_sI, gL_sL, gL_sA, gL_sM, aI_sI, aI_sL, aI_sA, aI_sM, aL_sI, aL_sL, aL_sA, aL_sM, oi_1]; try dsimp only
            unfold Qv_flowStep
            try dsimp only
            have es : fsS σ c = ((sI (beS (coS σ ((aI σ 20) (c).toNatClampNeg) 0 (gI σ 103).toInt.toNat) ((nowR σ) &&& (coF σ ((aI σ 20) (c).toNatClampNeg) 0 (gI σ 103).toInt.toNat).1)) 92 1), (c + 1)) := (fs_e42 (by show (aI σ 19 c.toNatClampNeg).toInt = 42; omega)).trans (by unfold fs_42; rw [if_pos (show (gI (beS (coS σ ((aI σ 20) (c).toNatClampNeg) 0 (gI σ 103).toInt.toNat) ((nowR σ) &&& (coF σ ((aI σ 20) (c).toNatClampNeg) 0 (gI σ 103).toInt.toNat).1)) 92) = 0 from h352), if_neg (show ¬ ((gI (beS (coS σ ((aI σ 20) (c).toNatClampNeg) 0 (gI σ 103).toInt.toNat) ((nowR σ) &&& (coF σ ((aI σ 20) (c).toNatClampNeg) 0 (gI σ 103).toInt.toNat).1)) 116) = 0) from h357)])
            refine ⟨(gI σ 112), (gI σ 113), ⟨Or.inl, fun q => q.elim id (fun z => absurd z (fun z => z.elim (fun y => by omega) (fun y => by omega)))⟩, ?_, ?_⟩
            · rw [la_id]
              exact (congrArg Prod.fst es).symm
            · rw [la_id]
              exact congrArg (fun z => some (Value.int z)) (congrArg Prod.snd es).symm
      have c347 : ¬ (aI σ 19 c.toNatClampNeg).toInt = 42 := fun q => h347 ((rfl : (aI σ 19 c.toNatClampNeg).toInt = (aI σ 19 c.toNatClampNeg).toInt).trans q)
      refine ⟨fun h364 => ?_, fun h364 => ?_⟩
      · have c364 : (aI σ 19 c.toNatClampNeg).toInt = 43 := (rfl : (aI σ 19 c.toNatClampNeg).toInt = (aI σ 19 c.toNatClampNeg).toInt).symm.trans h364
        refine hB _ _ _ _ _ (fun m365 hm365 => ?_)
        dsimp only [ugo, uwp, ust, uct, rfd, BflowStep, BflowStep_1420, Nat.beq, lv_args, rlk, rs1, rs2, rdl, rky, rcd, rno, rsw, Value.category, List.filter, List.take, List.drop, List.reverse, List.reverseAux, List.cons_append, List.nil_append, Option.toList, Int.toNat, Int.reduceToNat, if_pos, if_neg, reduceIte, ↓reduceIte, Nat.reduceAdd, Nat.reduceEqDiff, Nat.reduceBEq, beq_self_eq_true, Bool.not_true, Bool.not_false, Bool.and_true, Bool.and_false, Bool.true_and, Bool.false_and, gI_sI, gI_sL, gI_sA, gI_sM, gL_sI, gL_sL, gL_sA, gL_sM, aI_sI, aI_sL, aI_sA, aI_sM, aL_sI, aL_sL, aL_sA, aL_sM, oi_1]; try dsimp only
        unfold Qv_flowStep
        try dsimp only
        have es : fsS σ c = (σ, (c + 1)) := fs_d (by show ¬ ((20 ≤ (aI σ 19 c.toNatClampNeg).toInt ∧ (aI σ 19 c.toNatClampNeg).toInt ≤ 25) ∨ (aI σ 19 c.toNatClampNeg).toInt = 27 ∨ (aI σ 19 c.toNatClampNeg).toInt = 28 ∨ (aI σ 19 c.toNatClampNeg).toInt = 30 ∨ (aI σ 19 c.toNatClampNeg).toInt = 31 ∨ (aI σ 19 c.toNatClampNeg).toInt = 33 ∨ (aI σ 19 c.toNatClampNeg).toInt = 35 ∨ (aI σ 19 c.toNatClampNeg).toInt = 36 ∨ (aI σ 19 c.toNatClampNeg).toInt = 37 ∨ (aI σ 19 c.toNatClampNeg).toInt = 38 ∨ (aI σ 19 c.toNatClampNeg).toInt = 39 ∨ (aI σ 19 c.toNatClampNeg).toInt = 40 ∨ (aI σ 19 c.toNatClampNeg).toInt = 42 ∨ (aI σ 19 c.toNatClampNeg).toInt = 45 ∨ (aI σ 19 c.toNatClampNeg).toInt = 46 ∨ (aI σ 19 c.toNatClampNeg).toInt = 47 ∨ (aI σ 19 c.toNatClampNeg).toInt = 48 ∨ (aI σ 19 c.toNatClampNeg).toInt = 49 ∨ (aI σ 19 c.toNatClampNeg).toInt = 50 ∨ (aI σ 19 c.toNatClampNeg).toInt = 51 ∨ (aI σ 19 c.toNatClampNeg).toInt = 52 ∨ (aI σ 19 c.toNatClampNeg).toInt = 53); omega)
        refine ⟨(gI σ 112), (gI σ 113), ⟨Or.inl, fun q => q.elim id (fun z => absurd z (fun z => z.elim (fun y => by omega) (fun y => by omega)))⟩, ?_, ?_⟩
        · rw [la_id]
          exact (congrArg Prod.fst es).symm
        · rw [la_id]
          exact congrArg (fun z => some (Value.int z)) (congrArg Prod.snd es).symm
      have c364 : ¬ (aI σ 19 c.toNatClampNeg).toInt = 43 := fun q => h364 ((rfl : (aI σ 19 c.toNatClampNeg).toInt = (aI σ 19 c.toNatClampNeg).toInt).trans q)
      refine ⟨fun h366 => ?_, fun h366 => ?_⟩
      · have c366 : (aI σ 19 c.toNatClampNeg).toInt = 44 := (rfl : (aI σ 19 c.toNatClampNeg).toInt = (aI σ 19 c.toNatClampNeg).toInt).symm.trans h366
        refine hB _ _ _ _ _ (fun m367 hm367 => ?_)
        dsimp only [ugo, uwp, ust, uct, rfd, BflowStep, BflowStep_1420, Nat.beq, lv_args, rlk, rs1, rs2, rdl, rky, rcd, rno, rsw, Value.category, List.filter, List.take, List.drop, List.reverse, List.reverseAux, List.cons_append, List.nil_append, Option.toList, Int.toNat, Int.reduceToNat, if_pos, if_neg, reduceIte, ↓reduceIte, Nat.reduceAdd, Nat.reduceEqDiff, Nat.reduceBEq, beq_self_eq_true, Bool.not_true, Bool.not_false, Bool.and_true, Bool.and_false, Bool.true_and, Bool.false_and, gI_sI, gI_sL, gI_sA, gI_sM, gL_sI, gL_sL, gL_sA, gL_sM, aI_sI, aI_sL, aI_sA, aI_sM, aL_sI, aL_sL, aL_sA, aL_sM, oi_1]; try dsimp only
        unfold Qv_flowStep
        try dsimp only
        have es : fsS σ c = (σ, (c + 1)) := fs_d (by show ¬ ((20 ≤ (aI σ 19 c.toNatClampNeg).toInt ∧ (aI σ 19 c.toNatClampNeg).toInt ≤ 25) ∨ (aI σ 19 c.toNatClampNeg).toInt = 27 ∨ (aI σ 19 c.toNatClampNeg).toInt = 28 ∨ (aI σ 19 c.toNatClampNeg).toInt = 30 ∨ (aI σ 19 c.toNatClampNeg).toInt = 31 ∨ (aI σ 19 c.toNatClampNeg).toInt = 33 ∨ (aI σ 19 c.toNatClampNeg).toInt = 35 ∨ (aI σ 19 c.toNatClampNeg).toInt = 36 ∨ (aI σ 19 c.toNatClampNeg).toInt = 37 ∨ (aI σ 19 c.toNatClampNeg).toInt = 38 ∨ (aI σ 19 c.toNatClampNeg).toInt = 39 ∨ (aI σ 19 c.toNatClampNeg).toInt = 40 ∨ (aI σ 19 c.toNatClampNeg).toInt = 42 ∨ (aI σ 19 c.toNatClampNeg).toInt = 45 ∨ (aI σ 19 c.toNatClampNeg).toInt = 46 ∨ (aI σ 19 c.toNatClampNeg).toInt = 47 ∨ (aI σ 19 c.toNatClampNeg).toInt = 48 ∨ (aI σ 19 c.toNatClampNeg).toInt = 49 ∨ (aI σ 19 c.toNatClampNeg).toInt = 50 ∨ (aI σ 19 c.toNatClampNeg).toInt = 51 ∨ (aI σ 19 c.toNatClampNeg).toInt = 52 ∨ (aI σ 19 c.toNatClampNeg).toInt = 53); omega)
        refine ⟨(gI σ 112), (gI σ 113), ⟨Or.inl, fun q => q.elim id (fun z => absurd z (fun z => z.elim (fun y => by omega) (fun y => by omega)))⟩, ?_, ?_⟩
        · rw [la_id]
          exact (congrArg Prod.fst es).symm
        · rw [la_id]
          exact congrArg (fun z => some (Value.int z)) (congrArg Prod.snd es).symm
      have c366 : ¬ (aI σ 19 c.toNatClampNeg).toInt = 44 := fun q => h366 ((rfl : (aI σ 19 c.toNatClampNeg).toInt = (aI σ 19 c.toNatClampNeg).toInt).trans q)
      refine ⟨fun h368 => ?_, fun h368 => ?_⟩
      · have c368 : (aI σ 19 c.toNatClampNeg).toInt = 45 := (rfl : (aI σ 19 c.toNatClampNeg).toInt = (aI σ 19 c.toNatClampNeg).toInt).symm.trans h368
        refine hB _ _ _ _ _ (fun m369 hm369 => ?_)
        dsimp only [ugo, uwp, ust, uct, rfd, BflowStep, BflowStep_295, Nat.beq, lv_args, rlk, rs1, rs2, rdl, rky, rcd, rno, rsw, Value.category, List.filter, List.take, List.drop, List.reverse, List.reverseAux, List.cons_append, List.nil_append, Option.toList, Int.toNat, Int.reduceToNat, if_pos, if_neg, reduceIte, ↓reduceIte, Nat.reduceAdd, Nat.reduceEqDiff, Nat.reduceBEq, beq_self_eq_true, Bool.not_true, Bool.not_false, Bool.and_true, Bool.and_false, Bool.true_and, Bool.false_and, gI_sI, gI_sL, gI_sA, gI_sM, gL_sI, gL_sL, gL_sA, gL_sM, aI_sI, aI_sL, aI_sA, aI_sM, aL_sI, aL_sL, aL_sA, aL_sM]; try dsimp only
        refine ⟨fun h370 => ?_, fun h370 => ?_⟩
        · refine hB _ _ _ _ _ (fun m371 hm371 => ?_)
          dsimp only [ugo, uwp, ust, uct, rfd, BflowStep, BflowStep_314, Nat.beq, lv_args, rlk, rs1, rs2, rdl, rky, rcd, rno, rsw, Value.category, List.filter, List.take, List.drop, List.reverse, List.reverseAux, List.cons_append, List.nil_append, Option.toList, Int.toNat, Int.reduceToNat, if_pos, if_neg, reduceIte, ↓reduceIte, Nat.reduceAdd, Nat.reduceEqDiff, Nat.reduceBEq, beq_self_eq_true, Bool.not_true, Bool.not_false, Bool.and_true, Bool.and_false, Bool.true_and, Bool.false_and, gI_sI, gI_sL, gI_sA, gI_sM, gL_sI, gL_sL, gL_sA, gL_sM, aI_sI, aI_sL, aI_sA, aI_sM, aL_sI, aL_sL, aL_sA, aL_sM]; try dsimp only
          intro p372
          refine hB _ _ _ _ _ (fun m373 hm373 => ?_)
          dsimp only [ugo, uwp, ust, uct, rfd, BflowStep, BflowStep_1420, Nat.beq, lv_args, rlk, rs1, rs2, rdl, rky, rcd, rno, rsw, Value.category, List.filter, List.take, List.drop, List.reverse, List.reverseAux, List.cons_append, List.nil_append, Option.toList, Int.toNat, Int.reduceToNat, if_pos, if_neg, reduceIte, ↓reduceIte, Nat.reduceAdd, Nat.reduceEqDiff, Nat.reduceBEq, beq_self_eq_true, Bool.not_true, Bool.not_false, Bool.and_true, Bool.and_false, Bool.true_and, Bool.false_and, gI_sI, gI_sL, gI_sA, gI_sM, gL_sI, gL_sL, gL_sA, gL_sM, aI_sI, aI_sL, aI_sA, aI_sM, aL_sI, aL_sL, aL_sA, aL_sM, oi_1]; try dsimp only
          unfold Qv_flowStep
          try dsimp only
          have es : fsS σ c = ((sA σ 111 (upd (aI σ 111) (((aI σ 22) (c).toNatClampNeg)).toNatClampNeg (gI σ 92))), (c + 1)) := (fs_e45 (by show (aI σ 19 c.toNatClampNeg).toInt = 45; omega)).trans (by unfold fs_45; rw [if_neg (show ¬ ((gI σ 117) = ((aI σ 20) (c).toNatClampNeg)) from h370)])
          refine ⟨(gI σ 112), (gI σ 113), ⟨Or.inl, fun q => q.elim id (fun z => absurd z (fun z => z.elim (fun y => by omega) (fun y => by omega)))⟩, ?_, ?_⟩
          · rw [la_id]
            exact (congrArg Prod.fst es).symm
          · rw [la_id]
            exact congrArg (fun z => some (Value.int z)) (congrArg Prod.snd es).symm
        · refine hB _ _ _ _ _ (fun m374 hm374 => ?_)
          dsimp only [ugo, uwp, ust, uct, rfd, BflowStep, BflowStep_303, Nat.beq, lv_args, rlk, rs1, rs2, rdl, rky, rcd, rno, rsw, Value.category, List.filter, List.take, List.drop, List.reverse, List.reverseAux, List.cons_append, List.nil_append, Option.toList, Int.toNat, Int.reduceToNat, if_pos, if_neg, reduceIte, ↓reduceIte, Nat.reduceAdd, Nat.reduceEqDiff, Nat.reduceBEq, beq_self_eq_true, Bool.not_true, Bool.not_false, Bool.and_true, Bool.and_false, Bool.true_and, Bool.false_and, gI_sI, gI_sL, gI_sA, gI_sM, gL_sI, gL_sL, gL_sA, gL_sM, aI_sI, aI_sL, aI_sA, aI_sM, aL_sI, aL_sL, aL_sA, aL_sM, oi_0, oi_m2]; try dsimp only
          refine hB _ _ _ _ _ (fun m375 hm375 => ?_)
          dsimp only [ugo, uwp, ust, uct, rfd, BflowStep, BflowStep_314, Nat.beq, lv_args, rlk, rs1, rs2, rdl, rky, rcd, rno, rsw, Value.category, List.filter, List.take, List.drop, List.reverse, List.reverseAux, List.cons_append, List.nil_append, Option.toList, Int.toNat, Int.reduceToNat, if_pos, if_neg, reduceIte, ↓reduceIte, Nat.reduceAdd, Nat.reduceEqDiff, Nat.reduceBEq, beq_self_eq_true, Bool.not_true, Bool.not_false, Bool.and_true, Bool.and_false, Bool.true_and, Bool.false_and, gI_sI, gI_sL, gI_sA, gI_sM, gL_sI, gL_sL, gL_sA, gL_sM, aI_sI, aI_sL, aI_sA, aI_sM, aL_sI, aL_sL, aL_sA, aL_sM]; try dsimp only
          intro p376
          refine hB _ _ _ _ _ (fun m377 hm377 => ?_)
          dsimp only [ugo, uwp, ust, uct, rfd, BflowStep, BflowStep_1420, Nat.beq, lv_args, rlk, rs1, rs2, rdl, rky, rcd, rno, rsw, Value.category, List.filter, List.take, List.drop, List.reverse, List.reverseAux, List.cons_append, List.nil_append, Option.toList, Int.toNat, Int.reduceToNat, if_pos, if_neg, reduceIte, ↓reduceIte, Nat.reduceAdd, Nat.reduceEqDiff, Nat.reduceBEq, beq_self_eq_true, Bool.not_true, Bool.not_false, Bool.and_true, Bool.and_false, Bool.true_and, Bool.false_and, gI_sI, gI_sL, gI_sA, gI_sM, gL_sI, gL_sL, gL_sA, gL_sM, aI_sI, aI_sL, aI_sA, aI_sM, aL_sI, aL_sL, aL_sA, aL_sM, oi_1]; try dsimp only
          unfold Qv_flowStep
          try dsimp only
          have es : fsS σ c = ((sA (sI (sI σ 117 (-2)) 92 0) 111 (upd (aI σ 111) (((aI σ 22) (c).toNatClampNeg)).toNatClampNeg 0)), (c + 1)) := (fs_e45 (by show (aI σ 19 c.toNatClampNeg).toInt = 45; omega)).trans (by unfold fs_45; rw [if_pos (show (gI σ 117) = ((aI σ 20) (c).toNatClampNeg) from h370)])
          refine ⟨(gI σ 112), (gI σ 113), ⟨Or.inl, fun q => q.elim id (fun z => absurd z (fun z => z.elim (fun y => by omega) (fun y => by omega)))⟩, ?_, ?_⟩
          · rw [la_id]
            exact (congrArg Prod.fst es).symm
          · rw [la_id]
            exact congrArg (fun z => some (Value.int z)) (congrArg Prod.snd es).symm
      have c368 : ¬ (aI σ 19 c.toNatClampNeg).toInt = 45 := fun q => h368 ((rfl : (aI σ 19 c.toNatClampNeg).toInt = (aI σ 19 c.toNatClampNeg).toInt).trans q)
      refine ⟨fun h378 => ?_, fun h378 => ?_⟩
      · have c378 : (aI σ 19 c.toNatClampNeg).toInt = 46 := (rfl : (aI σ 19 c.toNatClampNeg).toInt = (aI σ 19 c.toNatClampNeg).toInt).symm.trans h378
        refine hB _ _ _ _ _ (fun m379 hm379 => ?_)
        dsimp only [ugo, uwp, ust, uct, rfd, BflowStep, BflowStep_1030, Nat.beq, lv_args, rlk, rs1, rs2, rdl, rky, rcd, rno, rsw, Value.category, List.filter, List.take, List.drop, List.reverse, List.reverseAux, List.cons_append, List.nil_append, Option.toList, Int.toNat, Int.reduceToNat, if_pos, if_neg, reduceIte, ↓reduceIte, Nat.reduceAdd, Nat.reduceEqDiff, Nat.reduceBEq, beq_self_eq_true, Bool.not_true, Bool.not_false, Bool.and_true, Bool.and_false, Bool.true_and, Bool.false_and, gI_sI, gI_sL, gI_sA, gI_sM, gL_sI, gL_sL, gL_sA, gL_sM, aI_sI, aI_sL, aI_sA, aI_sM, aL_sI, aL_sL, aL_sA, aL_sM, oi_47]; try dsimp only
        intro p380
        intro p381
        refine ⟨fun h382 => ?_, fun h382 => ?_⟩
        · refine hB _ _ _ _ _ (fun m383 hm383 => ?_)
          dsimp only [ugo, uwp, ust, uct, rfd, BflowStep, BflowStep_1063, Nat.beq, lv_args, rlk, rs1, rs2, rdl, rky, rcd, rno, rsw, Value.category, List.filter, List.take, List.drop, List.reverse, List.reverseAux, List.cons_append, List.nil_append, Option.toList, Int.toNat, Int.reduceToNat, if_pos, if_neg, reduceIte, ↓reduceIte, Nat.reduceAdd, Nat.reduceEqDiff, Nat.reduceBEq, beq_self_eq_true, Bool.not_true, Bool.not_false, Bool.and_true, Bool.and_false, Bool.true_and, Bool.false_and, gI_sI, gI_sL, gI_sA, gI_sM, gL_sI, gL_sL, gL_sA, gL_sM, aI_sI, aI_sL, aI_sA, aI_sM, aL_sI, aL_sL, aL_sA, aL_sM, oi_0]; try dsimp only
          refine hB _ _ _ _ _ (fun m384 hm384 => ?_)
          dsimp only [ugo, uwp, ust, uct, rfd, BflowStep, BflowStep_1064, Nat.beq, lv_args, rlk, rs1, rs2, rdl, rky, rcd, rno, rsw, Value.category, List.filter, List.take, List.drop, List.reverse, List.reverseAux, List.cons_append, List.nil_append, Option.toList, Int.toNat, Int.reduceToNat, if_pos, if_neg, reduceIte, ↓reduceIte, Nat.reduceAdd, Nat.reduceEqDiff, Nat.reduceBEq, beq_self_eq_true, Bool.not_true, Bool.not_false, Bool.and_true, Bool.and_false, Bool.true_and, Bool.false_and, gI_sI, gI_sL, gI_sA, gI_sM, gL_sI, gL_sL, gL_sA, gL_sM, aI_sI, aI_sL, aI_sA, aI_sM, aL_sI, aL_sL, aL_sA, aL_sM]; try dsimp only
          intro p385
          intro p386
          refine ⟨fun h387 => ?_, fun h387 => ?_⟩
          · refine hB _ _ _ _ _ (fun m388 hm388 => ?_)
            dsimp only [ugo, uwp, ust, uct, rfd, BflowStep, BflowStep_1101, Nat.beq, lv_args, rlk, rs1, rs2, rdl, rky, rcd, rno, rsw, Value.category, List.filter, List.take, List.drop, List.reverse, List.reverseAux, List.cons_append, List.nil_append, Option.toList, Int.toNat, Int.reduceToNat, if_pos, if_neg, reduceIte, ↓reduceIte, Nat.reduceAdd, Nat.reduceEqDiff, Nat.reduceBEq, beq_self_eq_true, Bool.not_true, Bool.not_false, Bool.and_true, Bool.and_false, Bool.true_and, Bool.false_and, gI_sI, gI_sL, gI_sA, gI_sM, gL_sI, gL_sL, gL_sA, gL_sM, aI_sI, aI_sL, aI_sA, aI_sM, aL_sI, aL_sL, aL_sA, aL_sM, oi_0]; try dsimp only
            refine hB _ _ _ _ _ (fun m389 hm389 => ?_)
            dsimp only [ugo, uwp, ust, uct, rfd, BflowStep, BflowStep_1102, Nat.beq, lv_args, rlk, rs1, rs2, rdl, rky, rcd, rno, rsw, Value.category, List.filter, List.take, List.drop, List.reverse, List.reverseAux, List.cons_append, List.nil_append, Option.toList, Int.toNat, Int.reduceToNat, if_pos, if_neg, reduceIte, ↓reduceIte, Nat.reduceAdd, Nat.reduceEqDiff, Nat.reduceBEq, beq_self_eq_true, Bool.not_true, Bool.not_false, Bool.and_true, Bool.and_false, Bool.true_and, Bool.false_and, gI_sI, gI_sL, gI_sA, gI_sM, gL_sI, gL_sL, gL_sA, gL_sM, aI_sI, aI_sL, aI_sA, aI_sM, aL_sI, aL_sL, aL_sA, aL_sM, oi_1]; try dsimp only
            intro p390
            refine ⟨trivial, fun w391 τ391 hq391 => ?_⟩
            obtain ⟨rfl, rfl⟩ := hq391 trivial
            dsimp only [Option.toList, List.cons_append, List.nil_append, Nat.beq, gI_sI, gI_sL, gI_sA, gI_sM, gL_sI, gL_sL, gL_sA, gL_sM, aI_sI, aI_sL, aI_sA, aI_sM, aL_sI, aL_sL, aL_sA, aL_sM]
            intro p392
            refine ⟨trivial, fun w393 τ393 hq393 => ?_⟩
            obtain ⟨rfl, rfl⟩ := hq393 trivial
            dsimp only [Option.toList, List.cons_append, List.nil_append, Nat.beq, gI_sI, gI_sL, gI_sA, gI_sM, gL_sI, gL_sL, gL_sA, gL_sM, aI_sI, aI_sL, aI_sA, aI_sM, aL_sI, aL_sL, aL_sA, aL_sM]
            refine hB _ _ _ _ _ (fun m394 hm394 => ?_)
            dsimp only [ugo, uwp, ust, uct, rfd, BflowStep, BflowStep_1420, Nat.beq, lv_args, rlk, rs1, rs2, rdl, rky, rcd, rno, rsw, Value.category, List.filter, List.take, List.drop, List.reverse, List.reverseAux, List.cons_append, List.nil_append, Option.toList, Int.toNat, Int.reduceToNat, if_pos, if_neg, reduceIte, ↓reduceIte, Nat.reduceAdd, Nat.reduceEqDiff, Nat.reduceBEq, beq_self_eq_true, Bool.not_true, Bool.not_false, Bool.and_true, Bool.and_false, Bool.true_and, Bool.false_and, gI_sI, gI_sL, gI_sA, gI_sM, gL_sI, gL_sL, gL_sA, gL_sM, aI_sI, aI_sL, aI_sA, aI_sM, aL_sI, aL_sL, aL_sA, aL_sM, oi_1]; try dsimp only
            unfold Qv_flowStep
            try dsimp only
            have es : fsS σ c = ((beS (sI (sI (sM (sA (sA (sA (sA σ 104 (upd (aI σ 104) ((gI σ 103)).toNatClampNeg ((aI σ 20) (c).toNatClampNeg))) 105 (upd (aI σ 105) ((gI σ 103)).toNatClampNeg 0)) 106 (upd (aI σ 106) ((gI σ 103)).toNatClampNeg c)) 107 (upd (aI σ 107) ((gI σ 103)).toNatClampNeg 0)) 108 (vp_updL (aL σ 108) ((gI σ 103)).toNatClampNeg (nowR (sA (sA (sA (sA σ 104 (upd (aI σ 104) ((gI σ 103)).toNatClampNeg ((aI σ 20) (c).toNatClampNeg))) 105 (upd (aI σ 105) ((gI σ 103)).toNatClampNeg 0)) 106 (upd (aI σ 106) ((gI σ 103)).toNatClampNeg c)) 107 (upd (aI σ 107) ((gI σ 103)).toNatClampNeg 0))))) 103 ((gI σ 103) + 1)) 92 0) (Int64.ofInt (-1))), (c + 1)) := (fs_e46 (by show (aI σ 19 c.toNatClampNeg).toInt = 46; omega)).trans (by unfold fs_46; rw [if_neg (show ¬ (((aI σ 19) (c).toNatClampNeg) = 47) from h382), if_pos (show (gI σ 92) = 0 from h387)])
            refine ⟨(gI σ 112), (gI σ 113), ⟨Or.inl, fun q => q.elim id (fun z => absurd z (fun z => z.elim (fun y => by omega) (fun y => by omega)))⟩, ?_, ?_⟩
            · rw [la_id]
              exact (congrArg Prod.fst es).symm
            · rw [la_id]
              exact congrArg (fun z => some (Value.int z)) (congrArg Prod.snd es).symm
          · refine hB _ _ _ _ _ (fun m395 hm395 => ?_)
            dsimp only [ugo, uwp, ust, uct, rfd, BflowStep, BflowStep_1090, Nat.beq, lv_args, rlk, rs1, rs2, rdl, rky, rcd, rno, rsw, Value.category, List.filter, List.take, List.drop, List.reverse, List.reverseAux, List.cons_append, List.nil_append, Option.toList, Int.toNat, Int.reduceToNat, if_pos, if_neg, reduceIte, ↓reduceIte, Nat.reduceAdd, Nat.reduceEqDiff, Nat.reduceBEq, beq_self_eq_true, Bool.not_true, Bool.not_false, Bool.and_true, Bool.and_false, Bool.true_and, Bool.false_and, gI_sI, gI_sL, gI_sA, gI_sM, gL_sI, gL_sL, gL_sA, gL_sM, aI_sI, aI_sL, aI_sA, aI_sM, aL_sI, aL_sL, aL_sA, aL_sM]; try dsimp only
            refine ⟨fun h396 => ?_, fun h396 => ?_⟩
            · refine hB _ _ _ _ _ (fun m397 hm397 => ?_)
              dsimp only [ugo, uwp, ust, uct, rfd, BflowStep, BflowStep_1101, Nat.beq, lv_args, rlk, rs1, rs2, rdl, rky, rcd, rno, rsw, Value.category, List.filter, List.take, List.drop, List.reverse, List.reverseAux, List.cons_append, List.nil_append, Option.toList, Int.toNat, Int.reduceToNat, if_pos, if_neg, reduceIte, ↓reduceIte, Nat.reduceAdd, Nat.reduceEqDiff, Nat.reduceBEq, beq_self_eq_true, Bool.not_true, Bool.not_false, Bool.and_true, Bool.and_false, Bool.true_and, Bool.false_and, gI_sI, gI_sL, gI_sA, gI_sM, gL_sI, gL_sL, gL_sA, gL_sM, aI_sI, aI_sL, aI_sA, aI_sM, aL_sI, aL_sL, aL_sA, aL_sM, oi_0]; try dsimp only
              refine hB _ _ _ _ _ (fun m398 hm398 => ?_)
              dsimp only [ugo, uwp, ust, uct, rfd, BflowStep, BflowStep_1102, Nat.beq, lv_args, rlk, rs1, rs2, rdl, rky, rcd, rno, rsw, Value.category, List.filter, List.take, List.drop, List.reverse, List.reverseAux, List.cons_append, List.nil_append, Option.toList, Int.toNat, Int.reduceToNat, if_pos, if_neg, reduceIte, ↓reduceIte, Nat.reduceAdd, Nat.reduceEqDiff, Nat.reduceBEq, beq_self_eq_true, Bool.not_true, Bool.not_false, Bool.and_true, Bool.and_false, Bool.true_and, Bool.false_and, gI_sI, gI_sL, gI_sA, gI_sM, gL_sI, gL_sL, gL_sA, gL_sM, aI_sI, aI_sL, aI_sA, aI_sM, aL_sI, aL_sL, aL_sA, aL_sM, oi_1]; try dsimp only
              intro p399
              refine ⟨trivial, fun w400 τ400 hq400 => ?_⟩
              obtain ⟨rfl, rfl⟩ := hq400 trivial
              dsimp only [Option.toList, List.cons_append, List.nil_append, Nat.beq, gI_sI, gI_sL, gI_sA, gI_sM, gL_sI, gL_sL, gL_sA, gL_sM, aI_sI, aI_sL, aI_sA, aI_sM, aL_sI, aL_sL, aL_sA, aL_sM]
              intro p401
              refine ⟨trivial, fun w402 τ402 hq402 => ?_⟩
              obtain ⟨rfl, rfl⟩ := hq402 trivial
              dsimp only [Option.toList, List.cons_append, List.nil_append, Nat.beq, gI_sI, gI_sL, gI_sA, gI_sM, gL_sI, gL_sL, gL_sA, gL_sM, aI_sI, aI_sL, aI_sA, aI_sM, aL_sI, aL_sL, aL_sA, aL_sM]
              refine hB _ _ _ _ _ (fun m403 hm403 => ?_)
              dsimp only [ugo, uwp, ust, uct, rfd, BflowStep, BflowStep_1420, Nat.beq, lv_args, rlk, rs1, rs2, rdl, rky, rcd, rno, rsw, Value.category, List.filter, List.take, List.drop, List.reverse, List.reverseAux, List.cons_append, List.nil_append, Option.toList, Int.toNat, Int.reduceToNat, if_pos, if_neg, reduceIte, ↓reduceIte, Nat.reduceAdd, Nat.reduceEqDiff, Nat.reduceBEq, beq_self_eq_true, Bool.not_true, Bool.not_false, Bool.and_true, Bool.and_false, Bool.true_and, Bool.false_and, gI_sI, gI_sL, gI_sA, gI_sM, gL_sI, gL_sL, gL_sA, gL_sM, aI_sI, aI_sL, aI_sA, aI_sM, aL_sI, aL_sL, aL_sA, aL_sM, oi_1]; try dsimp only
              unfold Qv_flowStep
              try dsimp only
              have es : fsS σ c = ((beS (sI (sI (sM (sA (sA (sA (sA σ 104 (upd (aI σ 104) ((gI σ 103)).toNatClampNeg ((aI σ 20) (c).toNatClampNeg))) 105 (upd (aI σ 105) ((gI σ 103)).toNatClampNeg 0)) 106 (upd (aI σ 106) ((gI σ 103)).toNatClampNeg c)) 107 (upd (aI σ 107) ((gI σ 103)).toNatClampNeg 0)) 108 (vp_updL (aL σ 108) ((gI σ 103)).toNatClampNeg (nowR (sA (sA (sA (sA σ 104 (upd (aI σ 104) ((gI σ 103)).toNatClampNeg ((aI σ 20) (c).toNatClampNeg))) 105 (upd (aI σ 105) ((gI σ 103)).toNatClampNeg 0)) 106 (upd (aI σ 106) ((gI σ 103)).toNatClampNeg c)) 107 (upd (aI σ 107) ((gI σ 103)).toNatClampNeg 0))))) 103 ((gI σ 103) + 1)) 92 0) (Int64.ofInt (-1))), (c + 1)) := (fs_e46 (by show (aI σ 19 c.toNatClampNeg).toInt = 46; omega)).trans (by unfold fs_46; rw [if_neg (show ¬ (((aI σ 19) (c).toNatClampNeg) = 47) from h382), if_neg (show ¬ ((gI σ 92) = 0) from h387), if_pos (show 0 ≤ (gI σ 117) from h396)])
              refine ⟨(gI σ 112), (gI σ 113), ⟨Or.inl, fun q => q.elim id (fun z => absurd z (fun z => z.elim (fun y => by omega) (fun y => by omega)))⟩, ?_, ?_⟩
              · rw [la_id]
                exact (congrArg Prod.fst es).symm
              · rw [la_id]
                exact congrArg (fun z => some (Value.int z)) (congrArg Prod.snd es).symm
            · refine hB _ _ _ _ _ (fun m404 hm404 => ?_)
              dsimp only [ugo, uwp, ust, uct, rfd, BflowStep, BflowStep_1097, Nat.beq, lv_args, rlk, rs1, rs2, rdl, rky, rcd, rno, rsw, Value.category, List.filter, List.take, List.drop, List.reverse, List.reverseAux, List.cons_append, List.nil_append, Option.toList, Int.toNat, Int.reduceToNat, if_pos, if_neg, reduceIte, ↓reduceIte, Nat.reduceAdd, Nat.reduceEqDiff, Nat.reduceBEq, beq_self_eq_true, Bool.not_true, Bool.not_false, Bool.and_true, Bool.and_false, Bool.true_and, Bool.false_and, gI_sI, gI_sL, gI_sA, gI_sM, gL_sI, gL_sL, gL_sA, gL_sM, aI_sI, aI_sL, aI_sA, aI_sM, aL_sI, aL_sL, aL_sA, aL_sM, oi_1]; try dsimp only
              refine hB _ _ _ _ _ (fun m405 hm405 => ?_)
              dsimp only [ugo, uwp, ust, uct, rfd, BflowStep, BflowStep_1102, Nat.beq, lv_args, rlk, rs1, rs2, rdl, rky, rcd, rno, rsw, Value.category, List.filter, List.take, List.drop, List.reverse, List.reverseAux, List.cons_append, List.nil_append, Option.toList, Int.toNat, Int.reduceToNat, if_pos, if_neg, reduceIte, ↓reduceIte, Nat.reduceAdd, Nat.reduceEqDiff, Nat.reduceBEq, beq_self_eq_true, Bool.not_true, Bool.not_false, Bool.and_true, Bool.and_false, Bool.true_and, Bool.false_and, gI_sI, gI_sL, gI_sA, gI_sM, gL_sI, gL_sL, gL_sA, gL_sM, aI_sI, aI_sL, aI_sA, aI_sM, aL_sI, aL_sL, aL_sA, aL_sM, oi_1]; try dsimp only
              intro p406
              refine ⟨trivial, fun w407 τ407 hq407 => ?_⟩
              obtain ⟨rfl, rfl⟩ := hq407 trivial
              dsimp only [Option.toList, List.cons_append, List.nil_append, Nat.beq, gI_sI, gI_sL, gI_sA, gI_sM, gL_sI, gL_sL, gL_sA, gL_sM, aI_sI, aI_sL, aI_sA, aI_sM, aL_sI, aL_sL, aL_sA, aL_sM]
              intro p408
              refine ⟨trivial, fun w409 τ409 hq409 => ?_⟩
              obtain ⟨rfl, rfl⟩ := hq409 trivial
              dsimp only [Option.toList, List.cons_append, List.nil_append, Nat.beq, gI_sI, gI_sL, gI_sA, gI_sM, gL_sI, gL_sL, gL_sA, gL_sM, aI_sI, aI_sL, aI_sA, aI_sM, aL_sI, aL_sL, aL_sA, aL_sM]
              refine hB _ _ _ _ _ (fun m410 hm410 => ?_)
              dsimp only [ugo, uwp, ust, uct, rfd, BflowStep, BflowStep_1420, Nat.beq, lv_args, rlk, rs1, rs2, rdl, rky, rcd, rno, rsw, Value.category, List.filter, List.take, List.drop, List.reverse, List.reverseAux, List.cons_append, List.nil_append, Option.toList, Int.toNat, Int.reduceToNat, if_pos, if_neg, reduceIte, ↓reduceIte, Nat.reduceAdd, Nat.reduceEqDiff, Nat.reduceBEq, beq_self_eq_true, Bool.not_true, Bool.not_false, Bool.and_true, Bool.and_false, Bool.true_and, Bool.false_and, gI_sI, gI_sL, gI_sA, gI_sM, gL_sI, gL_sL, gL_sA, gL_sM, aI_sI, aI_sL, aI_sA, aI_sM, aL_sI, aL_sL, aL_sA, aL_sM, oi_1]; try dsimp only
              unfold Qv_flowStep
              try dsimp only
              have es : fsS σ c = ((beS (sI (sI (sM (sA (sA (sA (sA σ 104 (upd (aI σ 104) ((gI σ 103)).toNatClampNeg ((aI σ 20) (c).toNatClampNeg))) 105 (upd (aI σ 105) ((gI σ 103)).toNatClampNeg 0)) 106 (upd (aI σ 106) ((gI σ 103)).toNatClampNeg c)) 107 (upd (aI σ 107) ((gI σ 103)).toNatClampNeg 1)) 108 (vp_updL (aL σ 108) ((gI σ 103)).toNatClampNeg (nowR (sA (sA (sA (sA σ 104 (upd (aI σ 104) ((gI σ 103)).toNatClampNeg ((aI σ 20) (c).toNatClampNeg))) 105 (upd (aI σ 105) ((gI σ 103)).toNatClampNeg 0)) 106 (upd (aI σ 106) ((gI σ 103)).toNatClampNeg c)) 107 (upd (aI σ 107) ((gI σ 103)).toNatClampNeg 1))))) 103 ((gI σ 103) + 1)) 92 0) (Int64.ofInt (-1))), (c + 1)) := (fs_e46 (by show (aI σ 19 c.toNatClampNeg).toInt = 46; omega)).trans (by unfold fs_46; rw [if_neg (show ¬ (((aI σ 19) (c).toNatClampNeg) = 47) from h382), if_neg (show ¬ ((gI σ 92) = 0) from h387), if_neg (show ¬ (0 ≤ (gI σ 117)) from h396)])
              refine ⟨(gI σ 112), (gI σ 113), ⟨Or.inl, fun q => q.elim id (fun z => absurd z (fun z => z.elim (fun y => by omega) (fun y => by omega)))⟩, ?_, ?_⟩
              · rw [la_id]
                exact (congrArg Prod.fst es).symm
              · rw [la_id]
                exact congrArg (fun z => some (Value.int z)) (congrArg Prod.snd es).symm
        · refine hB _ _ _ _ _ (fun m411 hm411 => ?_)
          dsimp only [ugo, uwp, ust, uct, rfd, BflowStep, BflowStep_1059, Nat.beq, lv_args, rlk, rs1, rs2, rdl, rky, rcd, rno, rsw, Value.category, List.filter, List.take, List.drop, List.reverse, List.reverseAux, List.cons_append, List.nil_append, Option.toList, Int.toNat, Int.reduceToNat, if_pos, if_neg, reduceIte, ↓reduceIte, Nat.reduceAdd, Nat.reduceEqDiff, Nat.reduceBEq, beq_self_eq_true, Bool.not_true, Bool.not_false, Bool.and_true, Bool.and_false, Bool.true_and, Bool.false_and, gI_sI, gI_sL, gI_sA, gI_sM, gL_sI, gL_sL, gL_sA, gL_sM, aI_sI, aI_sL, aI_sA, aI_sM, aL_sI, aL_sL, aL_sA, aL_sM, oi_1]; try dsimp only
          refine hB _ _ _ _ _ (fun m412 hm412 => ?_)
          dsimp only [ugo, uwp, ust, uct, rfd, BflowStep, BflowStep_1064, Nat.beq, lv_args, rlk, rs1, rs2, rdl, rky, rcd, rno, rsw, Value.category, List.filter, List.take, List.drop, List.reverse, List.reverseAux, List.cons_append, List.nil_append, Option.toList, Int.toNat, Int.reduceToNat, if_pos, if_neg, reduceIte, ↓reduceIte, Nat.reduceAdd, Nat.reduceEqDiff, Nat.reduceBEq, beq_self_eq_true, Bool.not_true, Bool.not_false, Bool.and_true, Bool.and_false, Bool.true_and, Bool.false_and, gI_sI, gI_sL, gI_sA, gI_sM, gL_sI, gL_sL, gL_sA, gL_sM, aI_sI, aI_sL, aI_sA, aI_sM, aL_sI, aL_sL, aL_sA, aL_sM]; try dsimp only
          intro p413
          intro p414
          refine ⟨fun h415 => ?_, fun h415 => ?_⟩
          · refine hB _ _ _ _ _ (fun m416 hm416 => ?_)
            dsimp only [ugo, uwp, ust, uct, rfd, BflowStep, BflowStep_1101, Nat.beq, lv_args, rlk, rs1, rs2, rdl, rky, rcd, rno, rsw, Value.category, List.filter, List.take, List.drop, List.reverse, List.reverseAux, List.cons_append, List.nil_append, Option.toList, Int.toNat, Int.reduceToNat, if_pos, if_neg, reduceIte, ↓reduceIte, Nat.reduceAdd, Nat.reduceEqDiff, Nat.reduceBEq, beq_self_eq_true, Bool.not_true, Bool.not_false, Bool.and_true, Bool.and_false, Bool.true_and, Bool.false_and, gI_sI, gI_sL, gI_sA, gI_sM, gL_sI, gL_sL, gL_sA, gL_sM, aI_sI, aI_sL, aI_sA, aI_sM, aL_sI, aL_sL, aL_sA, aL_sM, oi_0]; try dsimp only
            refine hB _ _ _ _ _ (fun m417 hm417 => ?_)
            dsimp only [ugo, uwp, ust, uct, rfd, BflowStep, BflowStep_1102, Nat.beq, lv_args, rlk, rs1, rs2, rdl, rky, rcd, rno, rsw, Value.category, List.filter, List.take, List.drop, List.reverse, List.reverseAux, List.cons_append, List.nil_append, Option.toList, Int.toNat, Int.reduceToNat, if_pos, if_neg, reduceIte, ↓reduceIte, Nat.reduceAdd, Nat.reduceEqDiff, Nat.reduceBEq, beq_self_eq_true, Bool.not_true, Bool.not_false, Bool.and_true, Bool.and_false, Bool.true_and, Bool.false_and, gI_sI, gI_sL, gI_sA, gI_sM, gL_sI, gL_sL, gL_sA, gL_sM, aI_sI, aI_sL, aI_sA, aI_sM, aL_sI, aL_sL, aL_sA, aL_sM, oi_1]; try dsimp only
            intro p418
            refine ⟨trivial, fun w419 τ419 hq419 => ?_⟩
            obtain ⟨rfl, rfl⟩ := hq419 trivial
            dsimp only [Option.toList, List.cons_append, List.nil_append, Nat.beq, gI_sI, gI_sL, gI_sA, gI_sM, gL_sI, gL_sL, gL_sA, gL_sM, aI_sI, aI_sL, aI_sA, aI_sM, aL_sI, aL_sL, aL_sA, aL_sM]
            intro p420
            refine ⟨trivial, fun w421 τ421 hq421 => ?_⟩
            obtain ⟨rfl, rfl⟩ := hq421 trivial
            dsimp only [Option.toList, List.cons_append, List.nil_append, Nat.beq, gI_sI, gI_sL, gI_sA, gI_sM, gL_sI, gL_sL, gL_sA, gL_sM, aI_sI, aI_sL, aI_sA, aI_sM, aL_sI, aL_sL, aL_sA, aL_sM]
            refine hB _ _ _ _ _ (fun m422 hm422 => ?_)
            dsimp only [ugo, uwp, ust, uct, rfd, BflowStep, BflowStep_1420, Nat.beq, lv_args, rlk, rs1, rs2, rdl, rky, rcd, rno, rsw, Value.category, List.filter, List.take, List.drop, List.reverse, List.reverseAux, List.cons_append, List.nil_append, Option.toList, Int.toNat, Int.reduceToNat, if_pos, if_neg, reduceIte, ↓reduceIte, Nat.reduceAdd, Nat.reduceEqDiff, Nat.reduceBEq, beq_self_eq_true, Bool.not_true, Bool.not_false, Bool.and_true, Bool.and_false, Bool.true_and, Bool.false_and, gI_sI, gI_sL, gI_sA, gI_sM, gL_sI, gL_sL, gL_sA, gL_sM, aI_sI, aI_sL, aI_sA, aI_sM, aL_sI, aL_sL, aL_sA, aL_sM, oi_1]; try dsimp only
            unfold Qv_flowStep
            try dsimp only
            have es : fsS σ c = ((beS (sI (sI (sM (sA (sA (sA (sA σ 104 (upd (aI σ 104) ((gI σ 103)).toNatClampNeg ((aI σ 20) (c).toNatClampNeg))) 105 (upd (aI σ 105) ((gI σ 103)).toNatClampNeg 1)) 106 (upd (aI σ 106) ((gI σ 103)).toNatClampNeg c)) 107 (upd (aI σ 107) ((gI σ 103)).toNatClampNeg 0)) 108 (vp_updL (aL σ 108) ((gI σ 103)).toNatClampNeg (nowR (sA (sA (sA (sA σ 104 (upd (aI σ 104) ((gI σ 103)).toNatClampNeg ((aI σ 20) (c).toNatClampNeg))) 105 (upd (aI σ 105) ((gI σ 103)).toNatClampNeg 1)) 106 (upd (aI σ 106) ((gI σ 103)).toNatClampNeg c)) 107 (upd (aI σ 107) ((gI σ 103)).toNatClampNeg 0))))) 103 ((gI σ 103) + 1)) 92 0) (Int64.ofInt (-1))), (c + 1)) := (fs_e46 (by show (aI σ 19 c.toNatClampNeg).toInt = 46; omega)).trans (by unfold fs_46; rw [if_pos (show ((aI σ 19) (c).toNatClampNeg) = 47 from h382), if_pos (show (gI σ 92) = 0 from h415)])
            refine ⟨(gI σ 112), (gI σ 113), ⟨Or.inl, fun q => q.elim id (fun z => absurd z (fun z => z.elim (fun y => by omega) (fun y => by omega)))⟩, ?_, ?_⟩
            · rw [la_id]
              exact (congrArg Prod.fst es).symm
            · rw [la_id]
              exact congrArg (fun z => some (Value.int z)) (congrArg Prod.snd es).symm
          · refine hB _ _ _ _ _ (fun m423 hm423 => ?_)
            dsimp only [ugo, uwp, ust, uct, rfd, BflowStep, BflowStep_1090, Nat.beq, lv_args, rlk, rs1, rs2, rdl, rky, rcd, rno, rsw, Value.category, List.filter, List.take, List.drop, List.reverse, List.reverseAux, List.cons_append, List.nil_append, Option.toList, Int.toNat, Int.reduceToNat, if_pos, if_neg, reduceIte, ↓reduceIte, Nat.reduceAdd, Nat.reduceEqDiff, Nat.reduceBEq, beq_self_eq_true, Bool.not_true, Bool.not_false, Bool.and_true, Bool.and_false, Bool.true_and, Bool.false_and, gI_sI, gI_sL, gI_sA, gI_sM, gL_sI, gL_sL, gL_sA, gL_sM, aI_sI, aI_sL, aI_sA, aI_sM, aL_sI, aL_sL, aL_sA, aL_sM]; try dsimp only
            refine ⟨fun h424 => ?_, fun h424 => ?_⟩
            · refine hB _ _ _ _ _ (fun m425 hm425 => ?_)
              dsimp only [ugo, uwp, ust, uct, rfd, BflowStep, BflowStep_1101, Nat.beq, lv_args, rlk, rs1, rs2, rdl, rky, rcd, rno, rsw, Value.category, List.filter, List.take, List.drop, List.reverse, List.reverseAux, List.cons_append, List.nil_append, Option.toList, Int.toNat, Int.reduceToNat, if_pos, if_neg, reduceIte, ↓reduceIte, Nat.reduceAdd, Nat.reduceEqDiff, Nat.reduceBEq, beq_self_eq_true, Bool.not_true, Bool.not_false, Bool.and_true, Bool.and_false, Bool.true_and, Bool.false_and, gI_sI, gI_sL, gI_sA, gI_sM, gL_sI, gL_sL, gL_sA, gL_sM, aI_sI, aI_sL, aI_sA, aI_sM, aL_sI, aL_sL, aL_sA, aL_sM, oi_0]; try dsimp only
              refine hB _ _ _ _ _ (fun m426 hm426 => ?_)
              dsimp only [ugo, uwp, ust, uct, rfd, BflowStep, BflowStep_1102, Nat.beq, lv_args, rlk, rs1, rs2, rdl, rky, rcd, rno, rsw, Value.category, List.filter, List.take, List.drop, List.reverse, List.reverseAux, List.cons_append, List.nil_append, Option.toList, Int.toNat, Int.reduceToNat, if_pos, if_neg, reduceIte, ↓reduceIte, Nat.reduceAdd, Nat.reduceEqDiff, Nat.reduceBEq, beq_self_eq_true, Bool.not_true, Bool.not_false, Bool.and_true, Bool.and_false, Bool.true_and, Bool.false_and, gI_sI, gI_sL, gI_sA, gI_sM, gL_sI, gL_sL, gL_sA, gL_sM, aI_sI, aI_sL, aI_sA, aI_sM, aL_sI, aL_sL, aL_sA, aL_sM, oi_1]; try dsimp only
              intro p427
              refine ⟨trivial, fun w428 τ428 hq428 => ?_⟩
              obtain ⟨rfl, rfl⟩ := hq428 trivial
              dsimp only [Option.toList, List.cons_append, List.nil_append, Nat.beq, gI_sI, gI_sL, gI_sA, gI_sM, gL_sI, gL_sL, gL_sA, gL_sM, aI_sI, aI_sL, aI_sA, aI_sM, aL_sI, aL_sL, aL_sA, aL_sM]
              intro p429
              refine ⟨trivial, fun w430 τ430 hq430 => ?_⟩
              obtain ⟨rfl, rfl⟩ := hq430 trivial
              dsimp only [Option.toList, List.cons_append, List.nil_append, Nat.beq, gI_sI, gI_sL, gI_sA, gI_sM, gL_sI, gL_sL, gL_sA, gL_sM, aI_sI, aI_sL, aI_sA, aI_sM, aL_sI, aL_sL, aL_sA, aL_sM]
              refine hB _ _ _ _ _ (fun m431 hm431 => ?_)
              dsimp only [ugo, uwp, ust, uct, rfd, BflowStep, BflowStep_1420, Nat.beq, lv_args, rlk, rs1, rs2, rdl, rky, rcd, rno, rsw, Value.category, List.filter, List.take, List.drop, List.reverse, List.reverseAux, List.cons_append, List.nil_append, Option.toList, Int.toNat, Int.reduceToNat, if_pos, if_neg, reduceIte, ↓reduceIte, Nat.reduceAdd, Nat.reduceEqDiff, Nat.reduceBEq, beq_self_eq_true, Bool.not_true, Bool.not_false, Bool.and_true, Bool.and_false, Bool.true_and, Bool.false_and, gI_sI, gI_sL, gI_sA, gI_sM, gL_sI, gL_sL, gL_sA, gL_sM, aI_sI, aI_sL, aI_sA, aI_sM, aL_sI, aL_sL, aL_sA, aL_sM, oi_1]; try dsimp only
              unfold Qv_flowStep
              try dsimp only
              have es : fsS σ c = ((beS (sI (sI (sM (sA (sA (sA (sA σ 104 (upd (aI σ 104) ((gI σ 103)).toNatClampNeg ((aI σ 20) (c).toNatClampNeg))) 105 (upd (aI σ 105) ((gI σ 103)).toNatClampNeg 1)) 106 (upd (aI σ 106) ((gI σ 103)).toNatClampNeg c)) 107 (upd (aI σ 107) ((gI σ 103)).toNatClampNeg 0)) 108 (vp_updL (aL σ 108) ((gI σ 103)).toNatClampNeg (nowR (sA (sA (sA (sA σ 104 (upd (aI σ 104) ((gI σ 103)).toNatClampNeg ((aI σ 20) (c).toNatClampNeg))) 105 (upd (aI σ 105) ((gI σ 103)).toNatClampNeg 1)) 106 (upd (aI σ 106) ((gI σ 103)).toNatClampNeg c)) 107 (upd (aI σ 107) ((gI σ 103)).toNatClampNeg 0))))) 103 ((gI σ 103) + 1)) 92 0) (Int64.ofInt (-1))), (c + 1)) := (fs_e46 (by show (aI σ 19 c.toNatClampNeg).toInt = 46; omega)).trans (by unfold fs_46; rw [if_pos (show ((aI σ 19) (c).toNatClampNeg) = 47 from h382), if_neg (show ¬ ((gI σ 92) = 0) from h415), if_pos (show 0 ≤ (gI σ 117) from h424)])
              refine ⟨(gI σ 112), (gI σ 113), ⟨Or.inl, fun q => q.elim id (fun z => absurd z (fun z => z.elim (fun y => by omega) (fun y => by omega)))⟩, ?_, ?_⟩
              · rw [la_id]
                exact (congrArg Prod.fst es).symm
              · rw [la_id]
                exact congrArg (fun z => some (Value.int z)) (congrArg Prod.snd es).symm
            · refine hB _ _ _ _ _ (fun m432 hm432 => ?_)
              dsimp only [ugo, uwp, ust, uct, rfd, BflowStep, BflowStep_1097, Nat.beq, lv_args, rlk, rs1, rs2, rdl, rky, rcd, rno, rsw, Value.category, List.filter, List.take, List.drop, List.reverse, List.reverseAux, List.cons_append, List.nil_append, Option.toList, Int.toNat, Int.reduceToNat, if_pos, if_neg, reduceIte, ↓reduceIte, Nat.reduceAdd, Nat.reduceEqDiff, Nat.reduceBEq, beq_self_eq_true, Bool.not_true, Bool.not_false, Bool.and_true, Bool.and_false, Bool.true_and, Bool.false_and, gI_sI, gI_sL, gI_sA, gI_sM, gL_sI, gL_sL, gL_sA, gL_sM, aI_sI, aI_sL, aI_sA, aI_sM, aL_sI, aL_sL, aL_sA, aL_sM, oi_1]; try dsimp only
              refine hB _ _ _ _ _ (fun m433 hm433 => ?_)
              dsimp only [ugo, uwp, ust, uct, rfd, BflowStep, BflowStep_1102, Nat.beq, lv_args, rlk, rs1, rs2, rdl, rky, rcd, rno, rsw, Value.category, List.filter, List.take, List.drop, List.reverse, List.reverseAux, List.cons_append, List.nil_append, Option.toList, Int.toNat, Int.reduceToNat, if_pos, if_neg, reduceIte, ↓reduceIte, Nat.reduceAdd, Nat.reduceEqDiff, Nat.reduceBEq, beq_self_eq_true, Bool.not_true, Bool.not_false, Bool.and_true, Bool.and_false, Bool.true_and, Bool.false_and, gI_sI, gI_sL, gI_sA, gI_sM, gL_sI, gL_sL, gL_sA, gL_sM, aI_sI, aI_sL, aI_sA, aI_sM, aL_sI, aL_sL, aL_sA, aL_sM, oi_1]; try dsimp only
              intro p434
              refine ⟨trivial, fun w435 τ435 hq435 => ?_⟩
              obtain ⟨rfl, rfl⟩ := hq435 trivial
              dsimp only [Option.toList, List.cons_append, List.nil_append, Nat.beq, gI_sI, gI_sL, gI_sA, gI_sM, gL_sI, gL_sL, gL_sA, gL_sM, aI_sI, aI_sL, aI_sA, aI_sM, aL_sI, aL_sL, aL_sA, aL_sM]
              intro p436
              refine ⟨trivial, fun w437 τ437 hq437 => ?_⟩
              obtain ⟨rfl, rfl⟩ := hq437 trivial
              dsimp only [Option.toList, List.cons_append, List.nil_append, Nat.beq, gI_sI, gI_sL, gI_sA, gI_sM, gL_sI, gL_sL, gL_sA, gL_sM, aI_sI, aI_sL, aI_sA, aI_sM, aL_sI, aL_sL, aL_sA, aL_sM]
              refine hB _ _ _ _ _ (fun m438 hm438 => ?_)
              dsimp only [ugo, uwp, ust, uct, rfd, BflowStep, BflowStep_1420, Nat.beq, lv_args, rlk, rs1, rs2, rdl, rky, rcd, rno, rsw, Value.category, List.filter, List.take, List.drop, List.reverse, List.reverseAux, List.cons_append, List.nil_append, Option.toList, Int.toNat, Int.reduceToNat, if_pos, if_neg, reduceIte, ↓reduceIte, Nat.reduceAdd, Nat.reduceEqDiff, Nat.reduceBEq, beq_self_eq_true, Bool.not_true, Bool.not_false, Bool.and_true, Bool.and_false, Bool.true_and, Bool.false_and, gI_sI, gI_sL, gI_sA, gI_sM, gL_sI, gL_sL, gL_sA, gL_sM, aI_sI, aI_sL, aI_sA, aI_sM, aL_sI, aL_sL, aL_sA, aL_sM, oi_1]; try dsimp only
              unfold Qv_flowStep
              try dsimp only
              have es : fsS σ c = ((beS (sI (sI (sM (sA (sA (sA (sA σ 104 (upd (aI σ 104) ((gI σ 103)).toNatClampNeg ((aI σ 20) (c).toNatClampNeg))) 105 (upd (aI σ 105) ((gI σ 103)).toNatClampNeg 1)) 106 (upd (aI σ 106) ((gI σ 103)).toNatClampNeg c)) 107 (upd (aI σ 107) ((gI σ 103)).toNatClampNeg 1)) 108 (vp_updL (aL σ 108) ((gI σ 103)).toNatClampNeg (nowR (sA (sA (sA (sA σ 104 (upd (aI σ 104) ((gI σ 103)).toNatClampNeg ((aI σ 20) (c).toNatClampNeg))) 105 (upd (aI σ 105) ((gI σ 103)).toNatClampNeg 1)) 106 (upd (aI σ 106) ((gI σ 103)).toNatClampNeg c)) 107 (upd (aI σ 107) ((gI σ 103)).toNatClampNeg 1))))) 103 ((gI σ 103) + 1)) 92 0) (Int64.ofInt (-1))), (c + 1)) := (fs_e46 (by show (aI σ 19 c.toNatClampNeg).toInt = 46; omega)).trans (by unfold fs_46; rw [if_pos (show ((aI σ 19) (c).toNatClampNeg) = 47 from h382), if_neg (show ¬ ((gI σ 92) = 0) from h415), if_neg (show ¬ (0 ≤ (gI σ 117)) from h424)])
              refine ⟨(gI σ 112), (gI σ 113), ⟨Or.inl, fun q => q.elim id (fun z => absurd z (fun z => z.elim (fun y => by omega) (fun y => by omega)))⟩, ?_, ?_⟩
              · rw [la_id]
                exact (congrArg Prod.fst es).symm
              · rw [la_id]
                exact congrArg (fun z => some (Value.int z)) (congrArg Prod.snd es).symm
      have c378 : ¬ (aI σ 19 c.toNatClampNeg).toInt = 46 := fun q => h378 ((rfl : (aI σ 19 c.toNatClampNeg).toInt = (aI σ 19 c.toNatClampNeg).toInt).trans q)
      refine ⟨fun h439 => ?_, fun h439 => ?_⟩
      · have c439 : (aI σ 19 c.toNatClampNeg).toInt = 47 := (rfl : (aI σ 19 c.toNatClampNeg).toInt = (aI σ 19 c.toNatClampNeg).toInt).symm.trans h439
        refine hB _ _ _ _ _ (fun m440 hm440 => ?_)
        dsimp only [ugo, uwp, ust, uct, rfd, BflowStep, BflowStep_1030, Nat.beq, lv_args, rlk, rs1, rs2, rdl, rky, rcd, rno, rsw, Value.category, List.filter, List.take, List.drop, List.reverse, List.reverseAux, List.cons_append, List.nil_append, Option.toList, Int.toNat, Int.reduceToNat, if_pos, if_neg, reduceIte, ↓reduceIte, Nat.reduceAdd, Nat.reduceEqDiff, Nat.reduceBEq, beq_self_eq_true, Bool.not_true, Bool.not_false, Bool.and_true, Bool.and_false, Bool.true_and, Bool.false_and, gI_sI, gI_sL, gI_sA, gI_sM, gL_sI, gL_sL, gL_sA, gL_sM, aI_sI, aI_sL, aI_sA, aI_sM, aL_sI, aL_sL, aL_sA, aL_sM, oi_47]; try dsimp only
        intro p441
        intro p442
        refine ⟨fun h443 => ?_, fun h443 => ?_⟩
        · refine hB _ _ _ _ _ (fun m444 hm444 => ?_)
          dsimp only [ugo, uwp, ust, uct, rfd, BflowStep, BflowStep_1063, Nat.beq, lv_args, rlk, rs1, rs2, rdl, rky, rcd, rno, rsw, Value.category, List.filter, List.take, List.drop, List.reverse, List.reverseAux, List.cons_append, List.nil_append, Option.toList, Int.toNat, Int.reduceToNat, if_pos, if_neg, reduceIte, ↓reduceIte, Nat.reduceAdd, Nat.reduceEqDiff, Nat.reduceBEq, beq_self_eq_true, Bool.not_true, Bool.not_false, Bool.and_true, Bool.and_false, Bool.true_and, Bool.false_and, gI_sI, gI_sL, gI_sA, gI_sM, gL_sI, gL_sL, gL_sA, gL_sM, aI_sI, aI_sL, aI_sA, aI_sM, aL_sI, aL_sL, aL_sA, aL_sM, oi_0]; try dsimp only
          refine hB _ _ _ _ _ (fun m445 hm445 => ?_)
          dsimp only [ugo, uwp, ust, uct, rfd, BflowStep, BflowStep_1064, Nat.beq, lv_args, rlk, rs1, rs2, rdl, rky, rcd, rno, rsw, Value.category, List.filter, List.take, List.drop, List.reverse, List.reverseAux, List.cons_append, List.nil_append, Option.toList, Int.toNat, Int.reduceToNat, if_pos, if_neg, reduceIte, ↓reduceIte, Nat.reduceAdd, Nat.reduceEqDiff, Nat.reduceBEq, beq_self_eq_true, Bool.not_true, Bool.not_false, Bool.and_true, Bool.and_false, Bool.true_and, Bool.false_and, gI_sI, gI_sL, gI_sA, gI_sM, gL_sI, gL_sL, gL_sA, gL_sM, aI_sI, aI_sL, aI_sA, aI_sM, aL_sI, aL_sL, aL_sA, aL_sM]; try dsimp only
          intro p446
          intro p447
          refine ⟨fun h448 => ?_, fun h448 => ?_⟩
          · refine hB _ _ _ _ _ (fun m449 hm449 => ?_)
            dsimp only [ugo, uwp, ust, uct, rfd, BflowStep, BflowStep_1101, Nat.beq, lv_args, rlk, rs1, rs2, rdl, rky, rcd, rno, rsw, Value.category, List.filter, List.take, List.drop, List.reverse, List.reverseAux, List.cons_append, List.nil_append, Option.toList, Int.toNat, Int.reduceToNat, if_pos, if_neg, reduceIte, ↓reduceIte, Nat.reduceAdd, Nat.reduceEqDiff, Nat.reduceBEq, beq_self_eq_true, Bool.not_true, Bool.not_false, Bool.and_true, Bool.and_false, Bool.true_and, Bool.false_and, gI_sI, gI_sL, gI_sA, gI_sM, gL_sI, gL_sL, gL_sA, gL_sM, aI_sI, aI_sL, aI_sA, aI_sM, aL_sI, aL_sL, aL_sA, aL_sM, oi_0]; try dsimp only
            refine hB _ _ _ _ _ (fun m450 hm450 => ?_)
            dsimp only [ugo, uwp, ust, uct, rfd, BflowStep, BflowStep_1102, Nat.beq, lv_args, rlk, rs1, rs2, rdl, rky, rcd, rno, rsw, Value.category, List.filter, List.take, List.drop, List.reverse, List.reverseAux, List.cons_append, List.nil_append, Option.toList, Int.toNat, Int.reduceToNat, if_pos, if_neg, reduceIte, ↓reduceIte, Nat.reduceAdd, Nat.reduceEqDiff, Nat.reduceBEq, beq_self_eq_true, Bool.not_true, Bool.not_false, Bool.and_true, Bool.and_false, Bool.true_and, Bool.false_and, gI_sI, gI_sL, gI_sA, gI_sM, gL_sI, gL_sL, gL_sA, gL_sM, aI_sI, aI_sL, aI_sA, aI_sM, aL_sI, aL_sL, aL_sA, aL_sM, oi_1]; try dsimp only
            intro p451
            refine ⟨trivial, fun w452 τ452 hq452 => ?_⟩
            obtain ⟨rfl, rfl⟩ := hq452 trivial
            dsimp only [Option.toList, List.cons_append, List.nil_append, Nat.beq, gI_sI, gI_sL, gI_sA, gI_sM, gL_sI, gL_sL, gL_sA, gL_sM, aI_sI, aI_sL, aI_sA, aI_sM, aL_sI, aL_sL, aL_sA, aL_sM]
            intro p453
            refine ⟨trivial, fun w454 τ454 hq454 => ?_⟩
            obtain ⟨rfl, rfl⟩ := hq454 trivial
            dsimp only [Option.toList, List.cons_append, List.nil_append, Nat.beq, gI_sI, gI_sL, gI_sA, gI_sM, gL_sI, gL_sL, gL_sA, gL_sM, aI_sI, aI_sL, aI_sA, aI_sM, aL_sI, aL_sL, aL_sA, aL_sM]
            refine hB _ _ _ _ _ (fun m455 hm455 => ?_)
            dsimp only [ugo, uwp, ust, uct, rfd, BflowStep, BflowStep_1420, Nat.beq, lv_args, rlk, rs1, rs2, rdl, rky, rcd, rno, rsw, Value.category, List.filter, List.take, List.drop, List.reverse, List.reverseAux, List.cons_append, List.nil_append, Option.toList, Int.toNat, Int.reduceToNat, if_pos, if_neg, reduceIte, ↓reduceIte, Nat.reduceAdd, Nat.reduceEqDiff, Nat.reduceBEq, beq_self_eq_true, Bool.not_true, Bool.not_false, Bool.and_true, Bool.and_false, Bool.true_and, Bool.false_and, gI_sI, gI_sL, gI_sA, gI_sM, gL_sI, gL_sL, gL_sA, gL_sM, aI_sI, aI_sL, aI_sA, aI_sM, aL_sI, aL_sL, aL_sA, aL_sM, oi_1]; try dsimp only
            unfold Qv_flowStep
            try dsimp only
            have es : fsS σ c = ((beS (sI (sI (sM (sA (sA (sA (sA σ 104 (upd (aI σ 104) ((gI σ 103)).toNatClampNeg ((aI σ 20) (c).toNatClampNeg))) 105 (upd (aI σ 105) ((gI σ 103)).toNatClampNeg 0)) 106 (upd (aI σ 106) ((gI σ 103)).toNatClampNeg c)) 107 (upd (aI σ 107) ((gI σ 103)).toNatClampNeg 0)) 108 (vp_updL (aL σ 108) ((gI σ 103)).toNatClampNeg (nowR (sA (sA (sA (sA σ 104 (upd (aI σ 104) ((gI σ 103)).toNatClampNeg ((aI σ 20) (c).toNatClampNeg))) 105 (upd (aI σ 105) ((gI σ 103)).toNatClampNeg 0)) 106 (upd (aI σ 106) ((gI σ 103)).toNatClampNeg c)) 107 (upd (aI σ 107) ((gI σ 103)).toNatClampNeg 0))))) 103 ((gI σ 103) + 1)) 92 0) (Int64.ofInt (-1))), (c + 1)) := (fs_e47 (by show (aI σ 19 c.toNatClampNeg).toInt = 47; omega)).trans (by unfold fs_47; rw [if_neg (show ¬ (((aI σ 19) (c).toNatClampNeg) = 47) from h443), if_pos (show (gI σ 92) = 0 from h448)])
            refine ⟨(gI σ 112), (gI σ 113), ⟨Or.inl, fun q => q.elim id (fun z => absurd z (fun z => z.elim (fun y => by omega) (fun y => by omega)))⟩, ?_, ?_⟩
            · rw [la_id]
              exact (congrArg Prod.fst es).symm
            · rw [la_id]
              exact congrArg (fun z => some (Value.int z)) (congrArg Prod.snd es).symm
          · refine hB _ _ _ _ _ (fun m456 hm456 => ?_)
            dsimp only [ugo, uwp, ust, uct, rfd, BflowStep, BflowStep_1090, Nat.beq, lv_args, rlk, rs1, rs2, rdl, rky, rcd, rno, rsw, Value.category, List.filter, List.take, List.drop, List.reverse, List.reverseAux, List.cons_append, List.nil_append, Option.toList, Int.toNat, Int.reduceToNat, if_pos, if_neg, reduceIte, ↓reduceIte, Nat.reduceAdd, Nat.reduceEqDiff, Nat.reduceBEq, beq_self_eq_true, Bool.not_true, Bool.not_false, Bool.and_true, Bool.and_false, Bool.true_and, Bool.false_and, gI_sI, gI_sL, gI_sA, gI_sM, gL_sI, gL_sL, gL_sA, gL_sM, aI_sI, aI_sL, aI_sA, aI_sM, aL_sI, aL_sL, aL_sA, aL_sM]; try dsimp only
            refine ⟨fun h457 => ?_, fun h457 => ?_⟩
            · refine hB _ _ _ _ _ (fun m458 hm458 => ?_)
              dsimp only [ugo, uwp, ust, uct, rfd, BflowStep, BflowStep_1101, Nat.beq, lv_args, rlk, rs1, rs2, rdl, rky, rcd, rno, rsw, Value.category, List.filter, List.take, List.drop, List.reverse, List.reverseAux, List.cons_append, List.nil_append, Option.toList, Int.toNat, Int.reduceToNat, if_pos, if_neg, reduceIte, ↓reduceIte, Nat.reduceAdd, Nat.reduceEqDiff, Nat.reduceBEq, beq_self_eq_true, Bool.not_true, Bool.not_false, Bool.and_true, Bool.and_false, Bool.true_and, Bool.false_and, gI_sI, gI_sL, gI_sA, gI_sM, gL_sI, gL_sL, gL_sA, gL_sM, aI_sI, aI_sL, aI_sA, aI_sM, aL_sI, aL_sL, aL_sA, aL_sM, oi_0]; try dsimp only
              refine hB _ _ _ _ _ (fun m459 hm459 => ?_)
              dsimp only [ugo, uwp, ust, uct, rfd, BflowStep, BflowStep_1102, Nat.beq, lv_args, rlk, rs1, rs2, rdl, rky, rcd, rno, rsw, Value.category, List.filter, List.take, List.drop, List.reverse, List.reverseAux, List.cons_append, List.nil_append, Option.toList, Int.toNat, Int.reduceToNat, if_pos, if_neg, reduceIte, ↓reduceIte, Nat.reduceAdd, Nat.reduceEqDiff, Nat.reduceBEq, beq_self_eq_true, Bool.not_true, Bool.not_false, Bool.and_true, Bool.and_false, Bool.true_and, Bool.false_and, gI_sI, gI_sL, gI_sA, gI_sM, gL_sI, gL_sL, gL_sA, gL_sM, aI_sI, aI_sL, aI_sA, aI_sM, aL_sI, aL_sL, aL_sA, aL_sM, oi_1]; try dsimp only
              intro p460
              refine ⟨trivial, fun w461 τ461 hq461 => ?_⟩
              obtain ⟨rfl, rfl⟩ := hq461 trivial
              dsimp only [Option.toList, List.cons_append, List.nil_append, Nat.beq, gI_sI, gI_sL, gI_sA, gI_sM, gL_sI, gL_sL, gL_sA, gL_sM, aI_sI, aI_sL, aI_sA, aI_sM, aL_sI, aL_sL, aL_sA, aL_sM]
              intro p462
              refine ⟨trivial, fun w463 τ463 hq463 => ?_⟩
              obtain ⟨rfl, rfl⟩ := hq463 trivial
              dsimp only [Option.toList, List.cons_append, List.nil_append, Nat.beq, gI_sI, gI_sL, gI_sA, gI_sM, gL_sI, gL_sL, gL_sA, gL_sM, aI_sI, aI_sL, aI_sA, aI_sM, aL_sI, aL_sL, aL_sA, aL_sM]
              refine hB _ _ _ _ _ (fun m464 hm464 => ?_)
              dsimp only [ugo, uwp, ust, uct, rfd, BflowStep, BflowStep_1420, Nat.beq, lv_args, rlk, rs1, rs2, rdl, rky, rcd, rno, rsw, Value.category, List.filter, List.take, List.drop, List.reverse, List.reverseAux, List.cons_append, List.nil_append, Option.toList, Int.toNat, Int.reduceToNat, if_pos, if_neg, reduceIte, ↓reduceIte, Nat.reduceAdd, Nat.reduceEqDiff, Nat.reduceBEq, beq_self_eq_true, Bool.not_true, Bool.not_false, Bool.and_true, Bool.and_false, Bool.true_and, Bool.false_and, gI_sI, gI_sL, gI_sA, gI_sM, gL_sI, gL_sL, gL_sA, gL_sM, aI_sI, aI_sL, aI_sA, aI_sM, aL_sI, aL_sL, aL_sA, aL_sM, oi_1]; try dsimp only
              unfold Qv_flowStep
              try dsimp only
              have es : fsS σ c = ((beS (sI (sI (sM (sA (sA (sA (sA σ 104 (upd (aI σ 104) ((gI σ 103)).toNatClampNeg ((aI σ 20) (c).toNatClampNeg))) 105 (upd (aI σ 105) ((gI σ 103)).toNatClampNeg 0)) 106 (upd (aI σ 106) ((gI σ 103)).toNatClampNeg c)) 107 (upd (aI σ 107) ((gI σ 103)).toNatClampNeg 0)) 108 (vp_updL (aL σ 108) ((gI σ 103)).toNatClampNeg (nowR (sA (sA (sA (sA σ 104 (upd (aI σ 104) ((gI σ 103)).toNatClampNeg ((aI σ 20) (c).toNatClampNeg))) 105 (upd (aI σ 105) ((gI σ 103)).toNatClampNeg 0)) 106 (upd (aI σ 106) ((gI σ 103)).toNatClampNeg c)) 107 (upd (aI σ 107) ((gI σ 103)).toNatClampNeg 0))))) 103 ((gI σ 103) + 1)) 92 0) (Int64.ofInt (-1))), (c + 1)) := (fs_e47 (by show (aI σ 19 c.toNatClampNeg).toInt = 47; omega)).trans (by unfold fs_47; rw [if_neg (show ¬ (((aI σ 19) (c).toNatClampNeg) = 47) from h443), if_neg (show ¬ ((gI σ 92) = 0) from h448), if_pos (show 0 ≤ (gI σ 117) from h457)])
              refine ⟨(gI σ 112), (gI σ 113), ⟨Or.inl, fun q => q.elim id (fun z => absurd z (fun z => z.elim (fun y => by omega) (fun y => by omega)))⟩, ?_, ?_⟩
              · rw [la_id]
                exact (congrArg Prod.fst es).symm
              · rw [la_id]
                exact congrArg (fun z => some (Value.int z)) (congrArg Prod.snd es).symm
            · refine hB _ _ _ _ _ (fun m465 hm465 => ?_)
              dsimp only [ugo, uwp, ust, uct, rfd, BflowStep, BflowStep_1097, Nat.beq, lv_args, rlk, rs1, rs2, rdl, rky, rcd, rno, rsw, Value.category, List.filter, List.take, List.drop, List.reverse, List.reverseAux, List.cons_append, List.nil_append, Option.toList, Int.toNat, Int.reduceToNat, if_pos, if_neg, reduceIte, ↓reduceIte, Nat.reduceAdd, Nat.reduceEqDiff, Nat.reduceBEq, beq_self_eq_true, Bool.not_true, Bool.not_false, Bool.and_true, Bool.and_false, Bool.true_and, Bool.false_and, gI_sI, gI_sL, gI_sA, gI_sM, gL_sI, gL_sL, gL_sA, gL_sM, aI_sI, aI_sL, aI_sA, aI_sM, aL_sI, aL_sL, aL_sA, aL_sM, oi_1]; try dsimp only
              refine hB _ _ _ _ _ (fun m466 hm466 => ?_)
              dsimp only [ugo, uwp, ust, uct, rfd, BflowStep, BflowStep_1102, Nat.beq, lv_args, rlk, rs1, rs2, rdl, rky, rcd, rno, rsw, Value.category, List.filter, List.take, List.drop, List.reverse, List.reverseAux, List.cons_append, List.nil_append, Option.toList, Int.toNat, Int.reduceToNat, if_pos, if_neg, reduceIte, ↓reduceIte, Nat.reduceAdd, Nat.reduceEqDiff, Nat.reduceBEq, beq_self_eq_true, Bool.not_true, Bool.not_false, Bool.and_true, Bool.and_false, Bool.true_and, Bool.false_and, gI_sI, gI_sL, gI_sA, gI_sM, gL_sI, gL_sL, gL_sA, gL_sM, aI_sI, aI_sL, aI_sA, aI_sM, aL_sI, aL_sL, aL_sA, aL_sM, oi_1]; try dsimp only
              intro p467
              refine ⟨trivial, fun w468 τ468 hq468 => ?_⟩
              obtain ⟨rfl, rfl⟩ := hq468 trivial
              dsimp only [Option.toList, List.cons_append, List.nil_append, Nat.beq, gI_sI, gI_sL, gI_sA, gI_sM, gL_sI, gL_sL, gL_sA, gL_sM, aI_sI, aI_sL, aI_sA, aI_sM, aL_sI, aL_sL, aL_sA, aL_sM]
              intro p469
              refine ⟨trivial, fun w470 τ470 hq470 => ?_⟩
              obtain ⟨rfl, rfl⟩ := hq470 trivial
              dsimp only [Option.toList, List.cons_append, List.nil_append, Nat.beq, gI_sI, gI_sL, gI_sA, gI_sM, gL_sI, gL_sL, gL_sA, gL_sM, aI_sI, aI_sL, aI_sA, aI_sM, aL_sI, aL_sL, aL_sA, aL_sM]
              refine hB _ _ _ _ _ (fun m471 hm471 => ?_)
              dsimp only [ugo, uwp, ust, uct, rfd, BflowStep, BflowStep_1420, Nat.beq, lv_args, rlk, rs1, rs2, rdl, rky, rcd, rno, rsw, Value.category, List.filter, List.take, List.drop, List.reverse, List.reverseAux, List.cons_append, List.nil_append, Option.toList, Int.toNat, Int.reduceToNat, if_pos, if_neg, reduceIte, ↓reduceIte, Nat.reduceAdd, Nat.reduceEqDiff, Nat.reduceBEq, beq_self_eq_true, Bool.not_true, Bool.not_false, Bool.and_true, Bool.and_false, Bool.true_and, Bool.false_and, gI_sI, gI_sL, gI_sA, gI_sM, gL_sI, gL_sL, gL_sA, gL_sM, aI_sI, aI_sL, aI_sA, aI_sM, aL_sI, aL_sL, aL_sA, aL_sM, oi_1]; try dsimp only
              unfold Qv_flowStep
              try dsimp only
              have es : fsS σ c = ((beS (sI (sI (sM (sA (sA (sA (sA σ 104 (upd (aI σ 104) ((gI σ 103)).toNatClampNeg ((aI σ 20) (c).toNatClampNeg))) 105 (upd (aI σ 105) ((gI σ 103)).toNatClampNeg 0)) 106 (upd (aI σ 106) ((gI σ 103)).toNatClampNeg c)) 107 (upd (aI σ 107) ((gI σ 103)).toNatClampNeg 1)) 108 (vp_updL (aL σ 108) ((gI σ 103)).toNatClampNeg (nowR (sA (sA (sA (sA σ 104 (upd (aI σ 104) ((gI σ 103)).toNatClampNeg ((aI σ 20) (c).toNatClampNeg))) 105 (upd (aI σ 105) ((gI σ 103)).toNatClampNeg 0)) 106 (upd (aI σ 106) ((gI σ 103)).toNatClampNeg c)) 107 (upd (aI σ 107) ((gI σ 103)).toNatClampNeg 1))))) 103 ((gI σ 103) + 1)) 92 0) (Int64.ofInt (-1))), (c + 1)) := (fs_e47 (by show (aI σ 19 c.toNatClampNeg).toInt = 47; omega)).trans (by unfold fs_47; rw [if_neg (show ¬ (((aI σ 19) (c).toNatClampNeg) = 47) from h443), if_neg (show ¬ ((gI σ 92) = 0) from h448), if_neg (show ¬ (0 ≤ (gI σ 117)) from h457)])
              refine ⟨(gI σ 112), (gI σ 113), ⟨Or.inl, fun q => q.elim id (fun z => absurd z (fun z => z.elim (fun y => by omega) (fun y => by omega)))⟩, ?_, ?_⟩
              · rw [la_id]
                exact (congrArg Prod.fst es).symm
              · rw [la_id]
                exact congrArg (fun z => some (Value.int z)) (congrArg Prod.snd es).symm
        · refine hB _ _ _ _ _ (fun m472 hm472 => ?_)
          dsimp only [ugo, uwp, ust, uct, rfd, BflowStep, BflowStep_1059, Nat.beq, lv_args, rlk, rs1, rs2, rdl, rky, rcd, rno, rsw, Value.category, List.filter, List.take, List.drop, List.reverse, List.reverseAux, List.cons_append, List.nil_append, Option.toList, Int.toNat, Int.reduceToNat, if_pos, if_neg, reduceIte, ↓reduceIte, Nat.reduceAdd, Nat.reduceEqDiff, Nat.reduceBEq, beq_self_eq_true, Bool.not_true, Bool.not_false, Bool.and_true, Bool.and_false, Bool.true_and, Bool.false_and, gI_sI, gI_sL, gI_sA, gI_sM, gL_sI, gL_sL, gL_sA, gL_sM, aI_sI, aI_sL, aI_sA, aI_sM, aL_sI, aL_sL, aL_sA, aL_sM, oi_1]; try dsimp only
          refine hB _ _ _ _ _ (fun m473 hm473 => ?_)
          dsimp only [ugo, uwp, ust, uct, rfd, BflowStep, BflowStep_1064, Nat.beq, lv_args, rlk, rs1, rs2, rdl, rky, rcd, rno, rsw, Value.category, List.filter, List.take, List.drop, List.reverse, List.reverseAux, List.cons_append, List.nil_append, Option.toList, Int.toNat, Int.reduceToNat, if_pos, if_neg, reduceIte, ↓reduceIte, Nat.reduceAdd, Nat.reduceEqDiff, Nat.reduceBEq, beq_self_eq_true, Bool.not_true, Bool.not_false, Bool.and_true, Bool.and_false, Bool.true_and, Bool.false_and, gI_sI, gI_sL, gI_sA, gI_sM, gL_sI, gL_sL, gL_sA, gL_sM, aI_sI, aI_sL, aI_sA, aI_sM, aL_sI, aL_sL, aL_sA, aL_sM]; try dsimp only
          intro p474
          intro p475
          refine ⟨fun h476 => ?_, fun h476 => ?_⟩
          · refine hB _ _ _ _ _ (fun m477 hm477 => ?_)
            dsimp only [ugo, uwp, ust, uct, rfd, BflowStep, BflowStep_1101, Nat.beq, lv_args, rlk, rs1, rs2, rdl, rky, rcd, rno, rsw, Value.category, List.filter, List.take, List.drop, List.reverse, List.reverseAux, List.cons_append, List.nil_append, Option.toList, Int.toNat, Int.reduceToNat, if_pos, if_neg, reduceIte, ↓reduceIte, Nat.reduceAdd, Nat.reduceEqDiff, Nat.reduceBEq, beq_self_eq_true, Bool.not_true, Bool.not_false, Bool.and_true, Bool.and_false, Bool.true_and, Bool.false_and, gI_sI, gI_sL, gI_sA, gI_sM, gL_sI, gL_sL, gL_sA, gL_sM, aI_sI, aI_sL, aI_sA, aI_sM, aL_sI, aL_sL, aL_sA, aL_sM, oi_0]; try dsimp only
            refine hB _ _ _ _ _ (fun m478 hm478 => ?_)
            dsimp only [ugo, uwp, ust, uct, rfd, BflowStep, BflowStep_1102, Nat.beq, lv_args, rlk, rs1, rs2, rdl, rky, rcd, rno, rsw, Value.category, List.filter, List.take, List.drop, List.reverse, List.reverseAux, List.cons_append, List.nil_append, Option.toList, Int.toNat, Int.reduceToNat, if_pos, if_neg, reduceIte, ↓reduceIte, Nat.reduceAdd, Nat.reduceEqDiff, Nat.reduceBEq, beq_self_eq_true, Bool.not_true, Bool.not_false, Bool.and_true, Bool.and_false, Bool.true_and, Bool.false_and, gI_sI, gI_sL, gI_sA, gI_sM, gL_sI, gL_sL, gL_sA, gL_sM, aI_sI, aI_sL, aI_sA, aI_sM, aL_sI, aL_sL, aL_sA, aL_sM, oi_1]; try dsimp only
            intro p479
            refine ⟨trivial, fun w480 τ480 hq480 => ?_⟩
            obtain ⟨rfl, rfl⟩ := hq480 trivial
            dsimp only [Option.toList, List.cons_append, List.nil_append, Nat.beq, gI_sI, gI_sL, gI_sA, gI_sM, gL_sI, gL_sL, gL_sA, gL_sM, aI_sI, aI_sL, aI_sA, aI_sM, aL_sI, aL_sL, aL_sA, aL_sM]
            intro p481
            refine ⟨trivial, fun w482 τ482 hq482 => ?_⟩
            obtain ⟨rfl, rfl⟩ := hq482 trivial
            dsimp only [Option.toList, List.cons_append, List.nil_append, Nat.beq, gI_sI, gI_sL, gI_sA, gI_sM, gL_sI, gL_sL, gL_sA, gL_sM, aI_sI, aI_sL, aI_sA, aI_sM, aL_sI, aL_sL, aL_sA, aL_sM]
            refine hB _ _ _ _ _ (fun m483 hm483 => ?_)
            dsimp only [ugo, uwp, ust, uct, rfd, BflowStep, BflowStep_1420, Nat.beq, lv_args, rlk, rs1, rs2, rdl, rky, rcd, rno, rsw, Value.category, List.filter, List.take, List.drop, List.reverse, List.reverseAux, List.cons_append, List.nil_append, Option.toList, Int.toNat, Int.reduceToNat, if_pos, if_neg, reduceIte, ↓reduceIte, Nat.reduceAdd, Nat.reduceEqDiff, Nat.reduceBEq, beq_self_eq_true, Bool.not_true, Bool.not_false, Bool.and_true, Bool.and_false, Bool.true_and, Bool.false_and, gI_sI, gI_sL, gI_sA, gI_sM, gL_sI, gL_sL, gL_sA, gL_sM, aI_sI, aI_sL, aI_sA, aI_sM, aL_sI, aL_sL, aL_sA, aL_sM, oi_1]; try dsimp only
            unfold Qv_flowStep
            try dsimp only
            have es : fsS σ c = ((beS (sI (sI (sM (sA (sA (sA (sA σ 104 (upd (aI σ 104) ((gI σ 103)).toNatClampNeg ((aI σ 20) (c).toNatClampNeg))) 105 (upd (aI σ 105) ((gI σ 103)).toNatClampNeg 1)) 106 (upd (aI σ 106) ((gI σ 103)).toNatClampNeg c)) 107 (upd (aI σ 107) ((gI σ 103)).toNatClampNeg 0)) 108 (vp_updL (aL σ 108) ((gI σ 103)).toNatClampNeg (nowR (sA (sA (sA (sA σ 104 (upd (aI σ 104) ((gI σ 103)).toNatClampNeg ((aI σ 20) (c).toNatClampNeg))) 105 (upd (aI σ 105) ((gI σ 103)).toNatClampNeg 1)) 106 (upd (aI σ 106) ((gI σ 103)).toNatClampNeg c)) 107 (upd (aI σ 107) ((gI σ 103)).toNatClampNeg 0))))) 103 ((gI σ 103) + 1)) 92 0) (Int64.ofInt (-1))), (c + 1)) := (fs_e47 (by show (aI σ 19 c.toNatClampNeg).toInt = 47; omega)).trans (by unfold fs_47; rw [if_pos (show ((aI σ 19) (c).toNatClampNeg) = 47 from h443), if_pos (show (gI σ 92) = 0 from h476)])
            refine ⟨(gI σ 112), (gI σ 113), ⟨Or.inl, fun q => q.elim id (fun z => absurd z (fun z => z.elim (fun y => by omega) (fun y => by omega)))⟩, ?_, ?_⟩
            · rw [la_id]
              exact (congrArg Prod.fst es).symm
            · rw [la_id]
              exact congrArg (fun z => some (Value.int z)) (congrArg Prod.snd es).symm
          · refine hB _ _ _ _ _ (fun m484 hm484 => ?_)
            dsimp only [ugo, uwp, ust, uct, rfd, BflowStep, BflowStep_1090, Nat.beq, lv_args, rlk, rs1, rs2, rdl, rky, rcd, rno, rsw, Value.category, List.filter, List.take, List.drop, List.reverse, List.reverseAux, List.cons_append, List.nil_append, Option.toList, Int.toNat, Int.reduceToNat, if_pos, if_neg, reduceIte, ↓reduceIte, Nat.reduceAdd, Nat.reduceEqDiff, Nat.reduceBEq, beq_self_eq_true, Bool.not_true, Bool.not_false, Bool.and_true, Bool.and_false, Bool.true_and, Bool.false_and, gI_sI, gI_sL, gI_sA, gI_sM, gL_sI, gL_sL, gL_sA, gL_sM, aI_sI, aI_sL, aI_sA, aI_sM, aL_sI, aL_sL, aL_sA, aL_sM]; try dsimp only
            refine ⟨fun h485 => ?_, fun h485 => ?_⟩
            · refine hB _ _ _ _ _ (fun m486 hm486 => ?_)
              dsimp only [ugo, uwp, ust, uct, rfd, BflowStep, BflowStep_1101, Nat.beq, lv_args, rlk, rs1, rs2, rdl, rky, rcd, rno, rsw, Value.category, List.filter, List.take, List.drop, List.reverse, List.reverseAux, List.cons_append, List.nil_append, Option.toList, Int.toNat, Int.reduceToNat, if_pos, if_neg, reduceIte, ↓reduceIte, Nat.reduceAdd, Nat.reduceEqDiff, Nat.reduceBEq, beq_self_eq_true, Bool.not_true, Bool.not_false, Bool.and_true, Bool.and_false, Bool.true_and, Bool.false_and, gI_sI, gI_sL, gI_sA, gI_sM, gL_sI, gL_sL, gL_sA, gL_sM, aI_sI, aI_sL, aI_sA, aI_sM, aL_sI, aL_sL, aL_sA, aL_sM, oi_0]; try dsimp only
              refine hB _ _ _ _ _ (fun m487 hm487 => ?_)
              dsimp only [ugo, uwp, ust, uct, rfd, BflowStep, BflowStep_1102, Nat.beq, lv_args, rlk, rs1, rs2, rdl, rky, rcd, rno, rsw, Value.category, List.filter, List.take, List.drop, List.reverse, List.reverseAux, List.cons_append, List.nil_append, Option.toList, Int.toNat, Int.reduceToNat, if_pos, if_neg, reduceIte, ↓reduceIte, Nat.reduceAdd, Nat.reduceEqDiff, Nat.reduceBEq, beq_self_eq_true, Bool.not_true, Bool.not_false, Bool.and_true, Bool.and_false, Bool.true_and, Bool.false_and, gI_sI, gI_sL, gI_sA, gI_sM, gL_sI, gL_sL, gL_sA, gL_sM, aI_sI, aI_sL, aI_sA, aI_sM, aL_sI, aL_sL, aL_sA, aL_sM, oi_1]; try dsimp only
              intro p488
              refine ⟨trivial, fun w489 τ489 hq489 => ?_⟩
              obtain ⟨rfl, rfl⟩ := hq489 trivial
              dsimp only [Option.toList, List.cons_append, List.nil_append, Nat.beq, gI_sI, gI_sL, gI_sA, gI_sM, gL_sI, gL_sL, gL_sA, gL_sM, aI_sI, aI_sL, aI_sA, aI_sM, aL_sI, aL_sL, aL_sA, aL_sM]
              intro p490
              refine ⟨trivial, fun w491 τ491 hq491 => ?_⟩
              obtain ⟨rfl, rfl⟩ := hq491 trivial
              dsimp only [Option.toList, List.cons_append, List.nil_append, Nat.beq, gI_sI, gI_sL, gI_sA, gI_sM, gL_sI, gL_sL, gL_sA, gL_sM, aI_sI, aI_sL, aI_sA, aI_sM, aL_sI, aL_sL, aL_sA, aL_sM]
              refine hB _ _ _ _ _ (fun m492 hm492 => ?_)
              dsimp only [ugo, uwp, ust, uct, rfd, BflowStep, BflowStep_1420, Nat.beq, lv_args, rlk, rs1, rs2, rdl, rky, rcd, rno, rsw, Value.category, List.filter, List.take, List.drop, List.reverse, List.reverseAux, List.cons_append, List.nil_append, Option.toList, Int.toNat, Int.reduceToNat, if_pos, if_neg, reduceIte, ↓reduceIte, Nat.reduceAdd, Nat.reduceEqDiff, Nat.reduceBEq, beq_self_eq_true, Bool.not_true, Bool.not_false, Bool.and_true, Bool.and_false, Bool.true_and, Bool.false_and, gI_sI, gI_sL, gI_sA, gI_sM, gL_sI, gL_sL, gL_sA, gL_sM, aI_sI, aI_sL, aI_sA, aI_sM, aL_sI, aL_sL, aL_sA, aL_sM, oi_1]; try dsimp only
              unfold Qv_flowStep
              try dsimp only
              have es : fsS σ c = ((beS (sI (sI (sM (sA (sA (sA (sA σ 104 (upd (aI σ 104) ((gI σ 103)).toNatClampNeg ((aI σ 20) (c).toNatClampNeg))) 105 (upd (aI σ 105) ((gI σ 103)).toNatClampNeg 1)) 106 (upd (aI σ 106) ((gI σ 103)).toNatClampNeg c)) 107 (upd (aI σ 107) ((gI σ 103)).toNatClampNeg 0)) 108 (vp_updL (aL σ 108) ((gI σ 103)).toNatClampNeg (nowR (sA (sA (sA (sA σ 104 (upd (aI σ 104) ((gI σ 103)).toNatClampNeg ((aI σ 20) (c).toNatClampNeg))) 105 (upd (aI σ 105) ((gI σ 103)).toNatClampNeg 1)) 106 (upd (aI σ 106) ((gI σ 103)).toNatClampNeg c)) 107 (upd (aI σ 107) ((gI σ 103)).toNatClampNeg 0))))) 103 ((gI σ 103) + 1)) 92 0) (Int64.ofInt (-1))), (c + 1)) := (fs_e47 (by show (aI σ 19 c.toNatClampNeg).toInt = 47; omega)).trans (by unfold fs_47; rw [if_pos (show ((aI σ 19) (c).toNatClampNeg) = 47 from h443), if_neg (show ¬ ((gI σ 92) = 0) from h476), if_pos (show 0 ≤ (gI σ 117) from h485)])
              refine ⟨(gI σ 112), (gI σ 113), ⟨Or.inl, fun q => q.elim id (fun z => absurd z (fun z => z.elim (fun y => by omega) (fun y => by omega)))⟩, ?_, ?_⟩
              · rw [la_id]
                exact (congrArg Prod.fst es).symm
              · rw [la_id]
                exact congrArg (fun z => some (Value.int z)) (congrArg Prod.snd es).symm
            · refine hB _ _ _ _ _ (fun m493 hm493 => ?_)
              dsimp only [ugo, uwp, ust, uct, rfd, BflowStep, BflowStep_1097, Nat.beq, lv_args, rlk, rs1, rs2, rdl, rky, rcd, rno, rsw, Value.category, List.filter, List.take, List.drop, List.reverse, List.reverseAux, List.cons_append, List.nil_append, Option.toList, Int.toNat, Int.reduceToNat, if_pos, if_neg, reduceIte, ↓reduceIte, Nat.reduceAdd, Nat.reduceEqDiff, Nat.reduceBEq, beq_self_eq_true, Bool.not_true, Bool.not_false, Bool.and_true, Bool.and_false, Bool.true_and, Bool.false_and, gI_sI, gI_sL, gI_sA, gI_sM, gL_sI, gL_sL, gL_sA, gL_sM, aI_sI, aI_sL, aI_sA, aI_sM, aL_sI, aL_sL, aL_sA, aL_sM, oi_1]; try dsimp only
              refine hB _ _ _ _ _ (fun m494 hm494 => ?_)
              dsimp only [ugo, uwp, ust, uct, rfd, BflowStep, BflowStep_1102, Nat.beq, lv_args, rlk, rs1, rs2, rdl, rky, rcd, rno, rsw, Value.category, List.filter, List.take, List.drop, List.reverse, List.reverseAux, List.cons_append, List.nil_append, Option.toList, Int.toNat, Int.reduceToNat, if_pos, if_neg, reduceIte, ↓reduceIte, Nat.reduceAdd, Nat.reduceEqDiff, Nat.reduceBEq, beq_self_eq_true, Bool.not_true, Bool.not_false, Bool.and_true, Bool.and_false, Bool.true_and, Bool.false_and, gI_sI, gI_sL, gI_sA, gI_sM, gL_sI, gL_sL, gL_sA, gL_sM, aI_sI, aI_sL, aI_sA, aI_sM, aL_sI, aL_sL, aL_sA, aL_sM, oi_1]; try dsimp only
              intro p495
              refine ⟨trivial, fun w496 τ496 hq496 => ?_⟩
              obtain ⟨rfl, rfl⟩ := hq496 trivial
              dsimp only [Option.toList, List.cons_append, List.nil_append, Nat.beq, gI_sI, gI_sL, gI_sA, gI_sM, gL_sI, gL_sL, gL_sA, gL_sM, aI_sI, aI_sL, aI_sA, aI_sM, aL_sI, aL_sL, aL_sA, aL_sM]
              intro p497
              refine ⟨trivial, fun w498 τ498 hq498 => ?_⟩
              obtain ⟨rfl, rfl⟩ := hq498 trivial
              dsimp only [Option.toList, List.cons_append, List.nil_append, Nat.beq, gI_sI, gI_sL, gI_sA, gI_sM, gL_sI, gL_sL, gL_sA, gL_sM, aI_sI, aI_sL, aI_sA, aI_sM, aL_sI, aL_sL, aL_sA, aL_sM]
              refine hB _ _ _ _ _ (fun m499 hm499 => ?_)
              dsimp only [ugo, uwp, ust, uct, rfd, BflowStep, BflowStep_1420, Nat.beq, lv_args, rlk, rs1, rs2, rdl, rky, rcd, rno, rsw, Value.category, List.filter, List.take, List.drop, List.reverse, List.reverseAux, List.cons_append, List.nil_append, Option.toList, Int.toNat, Int.reduceToNat, if_pos, if_neg, reduceIte, ↓reduceIte, Nat.reduceAdd, Nat.reduceEqDiff, Nat.reduceBEq, beq_self_eq_true, Bool.not_true, Bool.not_false, Bool.and_true, Bool.and_false, Bool.true_and, Bool.false_and, gI_sI, gI_sL, gI_sA, gI_sM, gL_sI, gL_sL, gL_sA, gL_sM, aI_sI, aI_sL, aI_sA, aI_sM, aL_sI, aL_sL, aL_sA, aL_sM, oi_1]; try dsimp only
              unfold Qv_flowStep
              try dsimp only
              have es : fsS σ c = ((beS (sI (sI (sM (sA (sA (sA (sA σ 104 (upd (aI σ 104) ((gI σ 103)).toNatClampNeg ((aI σ 20) (c).toNatClampNeg))) 105 (upd (aI σ 105) ((gI σ 103)).toNatClampNeg 1)) 106 (upd (aI σ 106) ((gI σ 103)).toNatClampNeg c)) 107 (upd (aI σ 107) ((gI σ 103)).toNatClampNeg 1)) 108 (vp_updL (aL σ 108) ((gI σ 103)).toNatClampNeg (nowR (sA (sA (sA (sA σ 104 (upd (aI σ 104) ((gI σ 103)).toNatClampNeg ((aI σ 20) (c).toNatClampNeg))) 105 (upd (aI σ 105) ((gI σ 103)).toNatClampNeg 1)) 106 (upd (aI σ 106) ((gI σ 103)).toNatClampNeg c)) 107 (upd (aI σ 107) ((gI σ 103)).toNatClampNeg 1))))) 103 ((gI σ 103) + 1)) 92 0) (Int64.ofInt (-1))), (c + 1)) := (fs_e47 (by show (aI σ 19 c.toNatClampNeg).toInt = 47; omega)).trans (by unfold fs_47; rw [if_pos (show ((aI σ 19) (c).toNatClampNeg) = 47 from h443), if_neg (show ¬ ((gI σ 92) = 0) from h476), if_neg (show ¬ (0 ≤ (gI σ 117)) from h485)])
              refine ⟨(gI σ 112), (gI σ 113), ⟨Or.inl, fun q => q.elim id (fun z => absurd z (fun z => z.elim (fun y => by omega) (fun y => by omega)))⟩, ?_, ?_⟩
              · rw [la_id]
                exact (congrArg Prod.fst es).symm
              · rw [la_id]
                exact congrArg (fun z => some (Value.int z)) (congrArg Prod.snd es).symm
      have c439 : ¬ (aI σ 19 c.toNatClampNeg).toInt = 47 := fun q => h439 ((rfl : (aI σ 19 c.toNatClampNeg).toInt = (aI σ 19 c.toNatClampNeg).toInt).trans q)
      refine ⟨fun h500 => ?_, fun h500 => ?_⟩
      · have c500 : (aI σ 19 c.toNatClampNeg).toInt = 48 := (rfl : (aI σ 19 c.toNatClampNeg).toInt = (aI σ 19 c.toNatClampNeg).toInt).symm.trans h500
        refine hB _ _ _ _ _ (fun m501 hm501 => ?_)
        dsimp only [ugo, uwp, ust, uct, rfd, BflowStep, BflowStep_1133, Nat.beq, lv_args, rlk, rs1, rs2, rdl, rky, rcd, rno, rsw, Value.category, List.filter, List.take, List.drop, List.reverse, List.reverseAux, List.cons_append, List.nil_append, Option.toList, Int.toNat, Int.reduceToNat, if_pos, if_neg, reduceIte, ↓reduceIte, Nat.reduceAdd, Nat.reduceEqDiff, Nat.reduceBEq, beq_self_eq_true, Bool.not_true, Bool.not_false, Bool.and_true, Bool.and_false, Bool.true_and, Bool.false_and, gI_sI, gI_sL, gI_sA, gI_sM, gL_sI, gL_sL, gL_sA, gL_sM, aI_sI, aI_sL, aI_sA, aI_sM, aL_sI, aL_sL, aL_sA, aL_sM]; try dsimp only
        refine ⟨trivial, fun w502 τ502 hq502 => ?_⟩
        obtain ⟨rfl, rfl⟩ := hq502 trivial
        dsimp only [Option.toList, List.cons_append, List.nil_append, Nat.beq, gI_sI, gI_sL, gI_sA, gI_sM, gL_sI, gL_sL, gL_sA, gL_sM, aI_sI, aI_sL, aI_sA, aI_sM, aL_sI, aL_sL, aL_sA, aL_sM]
        refine hB _ _ _ _ _ (fun m503 hm503 => ?_)
        dsimp only [ugo, uwp, ust, uct, rfd, BflowStep, BflowStep_1420, Nat.beq, lv_args, rlk, rs1, rs2, rdl, rky, rcd, rno, rsw, Value.category, List.filter, List.take, List.drop, List.reverse, List.reverseAux, List.cons_append, List.nil_append, Option.toList, Int.toNat, Int.reduceToNat, if_pos, if_neg, reduceIte, ↓reduceIte, Nat.reduceAdd, Nat.reduceEqDiff, Nat.reduceBEq, beq_self_eq_true, Bool.not_true, Bool.not_false, Bool.and_true, Bool.and_false, Bool.true_and, Bool.false_and, gI_sI, gI_sL, gI_sA, gI_sM, gL_sI, gL_sL, gL_sA, gL_sM, aI_sI, aI_sL, aI_sA, aI_sM, aL_sI, aL_sL, aL_sA, aL_sM, oi_1]; try dsimp only
        unfold Qv_flowStep
        try dsimp only
        have es : fsS σ c = ((beS (sI σ 92 0) (Int64.ofInt (-1))), (c + 1)) := (fs_e48 (by show (aI σ 19 c.toNatClampNeg).toInt = 48; omega)).trans (rfl)
        refine ⟨(gI σ 112), (gI σ 113), ⟨Or.inl, fun q => q.elim id (fun z => absurd z (fun z => z.elim (fun y => by omega) (fun y => by omega)))⟩, ?_, ?_⟩
        · rw [la_id]
          exact (congrArg Prod.fst es).symm
        · rw [la_id]
          exact congrArg (fun z => some (Value.int z)) (congrArg Prod.snd es).symm
      have c500 : ¬ (aI σ 19 c.toNatClampNeg).toInt = 48 := fun q => h500 ((rfl : (aI σ 19 c.toNatClampNeg).toInt = (aI σ 19 c.toNatClampNeg).toInt).trans q)
      refine ⟨fun h504 => ?_, fun h504 => ?_⟩
      · have c504 : (aI σ 19 c.toNatClampNeg).toInt = 49 := (rfl : (aI σ 19 c.toNatClampNeg).toInt = (aI σ 19 c.toNatClampNeg).toInt).symm.trans h504
        refine hB _ _ _ _ _ (fun m505 hm505 => ?_)
        dsimp only [ugo, uwp, ust, uct, rfd, BflowStep, BflowStep_1133, Nat.beq, lv_args, rlk, rs1, rs2, rdl, rky, rcd, rno, rsw, Value.category, List.filter, List.take, List.drop, List.reverse, List.reverseAux, List.cons_append, List.nil_append, Option.toList, Int.toNat, Int.reduceToNat, if_pos, if_neg, reduceIte, ↓reduceIte, Nat.reduceAdd, Nat.reduceEqDiff, Nat.reduceBEq, beq_self_eq_true, Bool.not_true, Bool.not_false, Bool.and_true, Bool.and_false, Bool.true_and, Bool.false_and, gI_sI, gI_sL, gI_sA, gI_sM, gL_sI, gL_sL, gL_sA, gL_sM, aI_sI, aI_sL, aI_sA, aI_sM, aL_sI, aL_sL, aL_sA, aL_sM]; try dsimp only
        refine ⟨trivial, fun w506 τ506 hq506 => ?_⟩
        obtain ⟨rfl, rfl⟩ := hq506 trivial
        dsimp only [Option.toList, List.cons_append, List.nil_append, Nat.beq, gI_sI, gI_sL, gI_sA, gI_sM, gL_sI, gL_sL, gL_sA, gL_sM, aI_sI, aI_sL, aI_sA, aI_sM, aL_sI, aL_sL, aL_sA, aL_sM]
        refine hB _ _ _ _ _ (fun m507 hm507 => ?_)
        dsimp only [ugo, uwp, ust, uct, rfd, BflowStep, BflowStep_1420, Nat.beq, lv_args, rlk, rs1, rs2, rdl, rky, rcd, rno, rsw, Value.category, List.filter, List.take, List.drop, List.reverse, List.reverseAux, List.cons_append, List.nil_append, Option.toList, Int.toNat, Int.reduceToNat, if_pos, if_neg, reduceIte, ↓reduceIte, Nat.reduceAdd, Nat.reduceEqDiff, Nat.reduceBEq, beq_self_eq_true, Bool.not_true, Bool.not_false, Bool.and_true, Bool.and_false, Bool.true_and, Bool.false_and, gI_sI, gI_sL, gI_sA, gI_sM, gL_sI, gL_sL, gL_sA, gL_sM, aI_sI, aI_sL, aI_sA, aI_sM, aL_sI, aL_sL, aL_sA, aL_sM, oi_1]; try dsimp only
        unfold Qv_flowStep
        try dsimp only
        have es : fsS σ c = ((beS (sI σ 92 0) (Int64.ofInt (-1))), (c + 1)) := (fs_e49 (by show (aI σ 19 c.toNatClampNeg).toInt = 49; omega)).trans (rfl)
        refine ⟨(gI σ 112), (gI σ 113), ⟨Or.inl, fun q => q.elim id (fun z => absurd z (fun z => z.elim (fun y => by omega) (fun y => by omega)))⟩, ?_, ?_⟩
        · rw [la_id]
          exact (congrArg Prod.fst es).symm
        · rw [la_id]
          exact congrArg (fun z => some (Value.int z)) (congrArg Prod.snd es).symm
      have c504 : ¬ (aI σ 19 c.toNatClampNeg).toInt = 49 := fun q => h504 ((rfl : (aI σ 19 c.toNatClampNeg).toInt = (aI σ 19 c.toNatClampNeg).toInt).trans q)
      refine ⟨fun h508 => ?_, fun h508 => ?_⟩
      · have c508 : (aI σ 19 c.toNatClampNeg).toInt = 50 := (rfl : (aI σ 19 c.toNatClampNeg).toInt = (aI σ 19 c.toNatClampNeg).toInt).symm.trans h508
        refine hB _ _ _ _ _ (fun m509 hm509 => ?_)
        dsimp only [ugo, uwp, ust, uct, rfd, BflowStep, BflowStep_1140, Nat.beq, lv_args, rlk, rs1, rs2, rdl, rky, rcd, rno, rsw, Value.category, List.filter, List.take, List.drop, List.reverse, List.reverseAux, List.cons_append, List.nil_append, Option.toList, Int.toNat, Int.reduceToNat, if_pos, if_neg, reduceIte, ↓reduceIte, Nat.reduceAdd, Nat.reduceEqDiff, Nat.reduceBEq, beq_self_eq_true, Bool.not_true, Bool.not_false, Bool.and_true, Bool.and_false, Bool.true_and, Bool.false_and, gI_sI, gI_sL, gI_sA, gI_sM, gL_sI, gL_sL, gL_sA, gL_sM, aI_sI, aI_sL, aI_sA, aI_sM, aL_sI, aL_sL, aL_sA, aL_sM]; try dsimp only
        refine ⟨trivial, fun w510 τ510 hq510 => ?_⟩
        obtain ⟨rfl, rfl⟩ := hq510 trivial
        dsimp only [Option.toList, List.cons_append, List.nil_append, Nat.beq, gI_sI, gI_sL, gI_sA, gI_sM, gL_sI, gL_sL, gL_sA, gL_sM, aI_sI, aI_sL, aI_sA, aI_sM, aL_sI, aL_sL, aL_sA, aL_sM]
        intro p511
        refine hB _ _ _ _ _ (fun m512 hm512 => ?_)
        dsimp only [ugo, uwp, ust, uct, rfd, BflowStep, BflowStep_1420, Nat.beq, lv_args, rlk, rs1, rs2, rdl, rky, rcd, rno, rsw, Value.category, List.filter, List.take, List.drop, List.reverse, List.reverseAux, List.cons_append, List.nil_append, Option.toList, Int.toNat, Int.reduceToNat, if_pos, if_neg, reduceIte, ↓reduceIte, Nat.reduceAdd, Nat.reduceEqDiff, Nat.reduceBEq, beq_self_eq_true, Bool.not_true, Bool.not_false, Bool.and_true, Bool.and_false, Bool.true_and, Bool.false_and, gI_sI, gI_sL, gI_sA, gI_sM, gL_sI, gL_sL, gL_sA, gL_sM, aI_sI, aI_sL, aI_sA, aI_sM, aL_sI, aL_sL, aL_sA, aL_sM, oi_1]; try dsimp only
        unfold Qv_flowStep
        try dsimp only
        have es : fsS σ c = ((sM σ 99 (vp_updL (aL σ 99) (((aI σ 20) (c).toNatClampNeg)).toNatClampNeg (nowR σ))), (c + 1)) := (fs_e50 (by show (aI σ 19 c.toNatClampNeg).toInt = 50; omega)).trans (rfl)
        refine ⟨(gI σ 112), (gI σ 113), ⟨Or.inl, fun q => q.elim id (fun z => absurd z (fun z => z.elim (fun y => by omega) (fun y => by omega)))⟩, ?_, ?_⟩
        · rw [la_id]
          exact (congrArg Prod.fst es).symm
        · rw [la_id]
          exact congrArg (fun z => some (Value.int z)) (congrArg Prod.snd es).symm
      have c508 : ¬ (aI σ 19 c.toNatClampNeg).toInt = 50 := fun q => h508 ((rfl : (aI σ 19 c.toNatClampNeg).toInt = (aI σ 19 c.toNatClampNeg).toInt).trans q)
      refine ⟨fun h513 => ?_, fun h513 => ?_⟩
      · have c513 : (aI σ 19 c.toNatClampNeg).toInt = 51 := (rfl : (aI σ 19 c.toNatClampNeg).toInt = (aI σ 19 c.toNatClampNeg).toInt).symm.trans h513
        refine hB _ _ _ _ _ (fun m514 hm514 => ?_)
        dsimp only [ugo, uwp, ust, uct, rfd, BflowStep, BflowStep_1153, Nat.beq, lv_args, rlk, rs1, rs2, rdl, rky, rcd, rno, rsw, Value.category, List.filter, List.take, List.drop, List.reverse, List.reverseAux, List.cons_append, List.nil_append, Option.toList, Int.toNat, Int.reduceToNat, if_pos, if_neg, reduceIte, ↓reduceIte, Nat.reduceAdd, Nat.reduceEqDiff, Nat.reduceBEq, beq_self_eq_true, Bool.not_true, Bool.not_false, Bool.and_true, Bool.and_false, Bool.true_and, Bool.false_and, gI_sI, gI_sL, gI_sA, gI_sM, gL_sI, gL_sL, gL_sA, gL_sM, aI_sI, aI_sL, aI_sA, aI_sM, aL_sI, aL_sL, aL_sA, aL_sM, oi_1]; try dsimp only
        intro p515
        refine ⟨trivial, fun w516 τ516 hq516 => ?_⟩
        obtain ⟨rfl, rfl⟩ := hq516 trivial
        dsimp only [Option.toList, List.cons_append, List.nil_append, Nat.beq, gI_sI, gI_sL, gI_sA, gI_sM, gL_sI, gL_sL, gL_sA, gL_sM, aI_sI, aI_sL, aI_sA, aI_sM, aL_sI, aL_sL, aL_sA, aL_sM]
        intro p517
        intro p518
        intro p519
        refine ⟨trivial, fun w520 τ520 hq520 => ?_⟩
        obtain ⟨rfl, rfl⟩ := hq520 trivial
        dsimp only [Option.toList, List.cons_append, List.nil_append, Nat.beq, gI_sI, gI_sL, gI_sA, gI_sM, gL_sI, gL_sL, gL_sA, gL_sM, aI_sI, aI_sL, aI_sA, aI_sM, aL_sI, aL_sL, aL_sA, aL_sM]
        refine hB _ _ _ _ _ (fun m521 hm521 => ?_)
        dsimp only [ugo, uwp, ust, uct, rfd, BflowStep, BflowStep_1420, Nat.beq, lv_args, rlk, rs1, rs2, rdl, rky, rcd, rno, rsw, Value.category, List.filter, List.take, List.drop, List.reverse, List.reverseAux, List.cons_append, List.nil_append, Option.toList, Int.toNat, Int.reduceToNat, if_pos, if_neg, reduceIte, ↓reduceIte, Nat.reduceAdd, Nat.reduceEqDiff, Nat.reduceBEq, beq_self_eq_true, Bool.not_true, Bool.not_false, Bool.and_true, Bool.and_false, Bool.true_and, Bool.false_and, gI_sI, gI_sL, gI_sA, gI_sM, gL_sI, gL_sL, gL_sA, gL_sM, aI_sI, aI_sL, aI_sA, aI_sM, aL_sI, aL_sL, aL_sA, aL_sM, oi_1]; try dsimp only
        unfold Qv_flowStep
        try dsimp only
        have es : fsS σ c = ((sI (beS (sM (sA σ 95 (upd (aI σ 95) (((aI σ 20) (c).toNatClampNeg)).toNatClampNeg (gI σ 92))) 96 (vp_updL (aL σ 96) (((aI σ 20) (c).toNatClampNeg)).toNatClampNeg (nowR (sA σ 95 (upd (aI σ 95) (((aI σ 20) (c).toNatClampNeg)).toNatClampNeg (gI σ 92)))))) (((aL σ 99) (((aI σ 20) (c).toNatClampNeg)).toNatClampNeg) ||| ((1 : Int64) <<< ((((aI σ 61) (((aI σ 20) (c).toNatClampNeg)).toNatClampNeg)).toInt64 &&& 63)))) 92 1), (c + 1)) := (fs_e51 (by show (aI σ 19 c.toNatClampNeg).toInt = 51; omega)).trans (rfl)
        refine ⟨(gI σ 112), (gI σ 113), ⟨Or.inl, fun q => q.elim id (fun z => absurd z (fun z => z.elim (fun y => by omega) (fun y => by omega)))⟩, ?_, ?_⟩
        · rw [la_id]
          exact (congrArg Prod.fst es).symm
        · rw [la_id]
          exact congrArg (fun z => some (Value.int z)) (congrArg Prod.snd es).symm
      have c513 : ¬ (aI σ 19 c.toNatClampNeg).toInt = 51 := fun q => h513 ((rfl : (aI σ 19 c.toNatClampNeg).toInt = (aI σ 19 c.toNatClampNeg).toInt).trans q)
      refine ⟨fun h522 => ?_, fun h522 => ?_⟩
      · have c522 : (aI σ 19 c.toNatClampNeg).toInt = 52 := (rfl : (aI σ 19 c.toNatClampNeg).toInt = (aI σ 19 c.toNatClampNeg).toInt).symm.trans h522
        refine hB _ _ _ _ _ (fun m523 hm523 => ?_)
        dsimp only [ugo, uwp, ust, uct, rfd, BflowStep, BflowStep_1200, Nat.beq, lv_args, rlk, rs1, rs2, rdl, rky, rcd, rno, rsw, Value.category, List.filter, List.take, List.drop, List.reverse, List.reverseAux, List.cons_append, List.nil_append, Option.toList, Int.toNat, Int.reduceToNat, if_pos, if_neg, reduceIte, ↓reduceIte, Nat.reduceAdd, Nat.reduceEqDiff, Nat.reduceBEq, beq_self_eq_true, Bool.not_true, Bool.not_false, Bool.and_true, Bool.and_false, Bool.true_and, Bool.false_and, gI_sI, gI_sL, gI_sA, gI_sM, gL_sI, gL_sL, gL_sA, gL_sM, aI_sI, aI_sL, aI_sA, aI_sM, aL_sI, aL_sL, aL_sA, aL_sM]; try dsimp only
        intro p524
        refine ⟨fun h525 => ?_, fun h525 => ?_⟩
        · refine hB _ _ _ _ _ (fun m526 hm526 => ?_)
          dsimp only [ugo, uwp, ust, uct, rfd, BflowStep, BflowStep_1221, Nat.beq, lv_args, rlk, rs1, rs2, rdl, rky, rcd, rno, rsw, Value.category, List.filter, List.take, List.drop, List.reverse, List.reverseAux, List.cons_append, List.nil_append, Option.toList, Int.toNat, Int.reduceToNat, if_pos, if_neg, reduceIte, ↓reduceIte, Nat.reduceAdd, Nat.reduceEqDiff, Nat.reduceBEq, beq_self_eq_true, Bool.not_true, Bool.not_false, Bool.and_true, Bool.and_false, Bool.true_and, Bool.false_and, gI_sI, gI_sL, gI_sA, gI_sM, gL_sI, gL_sL, gL_sA, gL_sM, aI_sI, aI_sL, aI_sA, aI_sM, aL_sI, aL_sL, aL_sA, aL_sM]; try dsimp only
          refine ⟨fun h527 => ?_, fun h527 => ?_⟩
          · refine hB _ _ _ _ _ (fun m528 hm528 => ?_)
            dsimp only [ugo, uwp, ust, uct, rfd, BflowStep, BflowStep_1237, Nat.beq, lv_args, rlk, rs1, rs2, rdl, rky, rcd, rno, rsw, Value.category, List.filter, List.take, List.drop, List.reverse, List.reverseAux, List.cons_append, List.nil_append, Option.toList, Int.toNat, Int.reduceToNat, if_pos, if_neg, reduceIte, ↓reduceIte, Nat.reduceAdd, Nat.reduceEqDiff, Nat.reduceBEq, beq_self_eq_true, Bool.not_true, Bool.not_false, Bool.and_true, Bool.and_false, Bool.true_and, Bool.false_and, gI_sI, gI_sL, gI_sA, gI_sM, gL_sI, gL_sL, gL_sA, gL_sM, aI_sI, aI_sL, aI_sA, aI_sM, aL_sI, aL_sL, aL_sA, aL_sM, oi_1]; try dsimp only
            refine hB _ _ _ _ _ (fun m529 hm529 => ?_)
            dsimp only [ugo, uwp, ust, uct, rfd, BflowStep, BflowStep_1242, Nat.beq, lv_args, rlk, rs1, rs2, rdl, rky, rcd, rno, rsw, Value.category, List.filter, List.take, List.drop, List.reverse, List.reverseAux, List.cons_append, List.nil_append, Option.toList, Int.toNat, Int.reduceToNat, if_pos, if_neg, reduceIte, ↓reduceIte, Nat.reduceAdd, Nat.reduceEqDiff, Nat.reduceBEq, beq_self_eq_true, Bool.not_true, Bool.not_false, Bool.and_true, Bool.and_false, Bool.true_and, Bool.false_and, gI_sI, gI_sL, gI_sA, gI_sM, gL_sI, gL_sL, gL_sA, gL_sM, aI_sI, aI_sL, aI_sA, aI_sM, aL_sI, aL_sL, aL_sA, aL_sM]; try dsimp only
            intro p530
            intro p531
            refine ⟨fun h532 => ?_, fun h532 => ?_⟩
            · refine hB _ _ _ _ _ (fun m533 hm533 => ?_)
              dsimp only [ugo, uwp, ust, uct, rfd, BflowStep, BflowStep_1264, Nat.beq, lv_args, rlk, rs1, rs2, rdl, rky, rcd, rno, rsw, Value.category, List.filter, List.take, List.drop, List.reverse, List.reverseAux, List.cons_append, List.nil_append, Option.toList, Int.toNat, Int.reduceToNat, if_pos, if_neg, reduceIte, ↓reduceIte, Nat.reduceAdd, Nat.reduceEqDiff, Nat.reduceBEq, beq_self_eq_true, Bool.not_true, Bool.not_false, Bool.and_true, Bool.and_false, Bool.true_and, Bool.false_and, gI_sI, gI_sL, gI_sA, gI_sM, gL_sI, gL_sL, gL_sA, gL_sM, aI_sI, aI_sL, aI_sA, aI_sM, aL_sI, aL_sL, aL_sA, aL_sM]; try dsimp only
              refine ⟨trivial, fun w534 τ534 hq534 => ?_⟩
              obtain ⟨rfl, rfl⟩ := hq534 trivial
              dsimp only [Option.toList, List.cons_append, List.nil_append, Nat.beq, gI_sI, gI_sL, gI_sA, gI_sM, gL_sI, gL_sL, gL_sA, gL_sM, aI_sI, aI_sL, aI_sA, aI_sM, aL_sI, aL_sL, aL_sA, aL_sM]
              intro p535
              refine hB _ _ _ _ _ (fun m536 hm536 => ?_)
              dsimp only [ugo, uwp, ust, uct, rfd, BflowStep, BflowStep_1275, Nat.beq, lv_args, rlk, rs1, rs2, rdl, rky, rcd, rno, rsw, Value.category, List.filter, List.take, List.drop, List.reverse, List.reverseAux, List.cons_append, List.nil_append, Option.toList, Int.toNat, Int.reduceToNat, if_pos, if_neg, reduceIte, ↓reduceIte, Nat.reduceAdd, Nat.reduceEqDiff, Nat.reduceBEq, beq_self_eq_true, Bool.not_true, Bool.not_false, Bool.and_true, Bool.and_false, Bool.true_and, Bool.false_and, gI_sI, gI_sL, gI_sA, gI_sM, gL_sI, gL_sL, gL_sA, gL_sM, aI_sI, aI_sL, aI_sA, aI_sM, aL_sI, aL_sL, aL_sA, aL_sM, oi_1]; try dsimp only
              intro p537
              intro p538
              refine ⟨trivial, fun w539 τ539 hq539 => ?_⟩
              obtain ⟨rfl, rfl⟩ := hq539 trivial
              dsimp only [Option.toList, List.cons_append, List.nil_append, Nat.beq, gI_sI, gI_sL, gI_sA, gI_sM, gL_sI, gL_sL, gL_sA, gL_sM, aI_sI, aI_sL, aI_sA, aI_sM, aL_sI, aL_sL, aL_sA, aL_sM]
              refine hB _ _ _ _ _ (fun m540 hm540 => ?_)
              dsimp only [ugo, uwp, ust, uct, rfd, BflowStep, BflowStep_1420, Nat.beq, lv_args, rlk, rs1, rs2, rdl, rky, rcd, rno, rsw, Value.category, List.filter, List.take, List.drop, List.reverse, List.reverseAux, List.cons_append, List.nil_append, Option.toList, Int.toNat, Int.reduceToNat, if_pos, if_neg, reduceIte, ↓reduceIte, Nat.reduceAdd, Nat.reduceEqDiff, Nat.reduceBEq, beq_self_eq_true, Bool.not_true, Bool.not_false, Bool.and_true, Bool.and_false, Bool.true_and, Bool.false_and, gI_sI, gI_sL, gI_sA, gI_sM, gL_sI, gL_sL, gL_sA, gL_sM, aI_sI, aI_sL, aI_sA, aI_sM, aL_sI, aL_sL, aL_sA, aL_sM, oi_1]; try dsimp only
              unfold Qv_flowStep
              try dsimp only
              have es : fsS σ c = ((sI (beS (sM (sA σ 95 (upd (aI σ 95) (((aI σ 20) (c).toNatClampNeg)).toNatClampNeg 1)) 96 (vp_updL (aL σ 96) (((aI σ 20) (c).toNatClampNeg)).toNatClampNeg ((nowR (sA σ 95 (upd (aI σ 95) (((aI σ 20) (c).toNatClampNeg)).toNatClampNeg 1))) &&& ((aL σ 96) (((aI σ 20) (c).toNatClampNeg)).toNatClampNeg)))) ((aL σ 99) (((aI σ 20) (c).toNatClampNeg)).toNatClampNeg)) 92 1), (c + 1)) := (fs_e52 (by show (aI σ 19 c.toNatClampNeg).toInt = 52; omega)).trans (by unfold fs_52; rw [if_pos (show 0 ≤ ((aI σ 57) (((aI σ 20) (c).toNatClampNeg)).toNatClampNeg) from h525), if_neg (show ¬ ((gI σ 92) = 0) from h527), if_pos (show 0 ≤ ((aI σ 57) (((aI σ 20) (c).toNatClampNeg)).toNatClampNeg) from h532)])
              refine ⟨(gI σ 112), (gI σ 113), ⟨Or.inl, fun q => q.elim id (fun z => absurd z (fun z => z.elim (fun y => by omega) (fun y => by omega)))⟩, ?_, ?_⟩
              · rw [la_id]
                exact (congrArg Prod.fst es).symm
              · rw [la_id]
                exact congrArg (fun z => some (Value.int z)) (congrArg Prod.snd es).symm
            · refine hB _ _ _ _ _ (fun m541 hm541 => ?_)
              dsimp only [ugo, uwp, ust, uct, rfd, BflowStep, BflowStep_1257, Nat.beq, lv_args, rlk, rs1, rs2, rdl, rky, rcd, rno, rsw, Value.category, List.filter, List.take, List.drop, List.reverse, List.reverseAux, List.cons_append, List.nil_append, Option.toList, Int.toNat, Int.reduceToNat, if_pos, if_neg, reduceIte, ↓reduceIte, Nat.reduceAdd, Nat.reduceEqDiff, Nat.reduceBEq, beq_self_eq_true, Bool.not_true, Bool.not_false, Bool.and_true, Bool.and_false, Bool.true_and, Bool.false_and, gI_sI, gI_sL, gI_sA, gI_sM, gL_sI, gL_sL, gL_sA, gL_sM, aI_sI, aI_sL, aI_sA, aI_sM, aL_sI, aL_sL, aL_sA, aL_sM]; try dsimp only
              refine ⟨trivial, fun w542 τ542 hq542 => ?_⟩
              obtain ⟨rfl, rfl⟩ := hq542 trivial
              dsimp only [Option.toList, List.cons_append, List.nil_append, Nat.beq, gI_sI, gI_sL, gI_sA, gI_sM, gL_sI, gL_sL, gL_sA, gL_sM, aI_sI, aI_sL, aI_sA, aI_sM, aL_sI, aL_sL, aL_sA, aL_sM]
              refine hB _ _ _ _ _ (fun m543 hm543 => ?_)
              dsimp only [ugo, uwp, ust, uct, rfd, BflowStep, BflowStep_1275, Nat.beq, lv_args, rlk, rs1, rs2, rdl, rky, rcd, rno, rsw, Value.category, List.filter, List.take, List.drop, List.reverse, List.reverseAux, List.cons_append, List.nil_append, Option.toList, Int.toNat, Int.reduceToNat, if_pos, if_neg, reduceIte, ↓reduceIte, Nat.reduceAdd, Nat.reduceEqDiff, Nat.reduceBEq, beq_self_eq_true, Bool.not_true, Bool.not_false, Bool.and_true, Bool.and_false, Bool.true_and, Bool.false_and, gI_sI, gI_sL, gI_sA, gI_sM, gL_sI, gL_sL, gL_sA, gL_sM, aI_sI, aI_sL, aI_sA, aI_sM, aL_sI, aL_sL, aL_sA, aL_sM, oi_1]; try dsimp only
              intro p544
              intro p545
              refine ⟨trivial, fun w546 τ546 hq546 => ?_⟩
              obtain ⟨rfl, rfl⟩ := hq546 trivial
              dsimp only [Option.toList, List.cons_append, List.nil_append, Nat.beq, gI_sI, gI_sL, gI_sA, gI_sM, gL_sI, gL_sL, gL_sA, gL_sM, aI_sI, aI_sL, aI_sA, aI_sM, aL_sI, aL_sL, aL_sA, aL_sM]
              refine hB _ _ _ _ _ (fun m547 hm547 => ?_)
              dsimp only [ugo, uwp, ust, uct, rfd, BflowStep, BflowStep_1420, Nat.beq, lv_args, rlk, rs1, rs2, rdl, rky, rcd, rno, rsw, Value.category, List.filter, List.take, List.drop, List.reverse, List.reverseAux, List.cons_append, List.nil_append, Option.toList, Int.toNat, Int.reduceToNat, if_pos, if_neg, reduceIte, ↓reduceIte, Nat.reduceAdd, Nat.reduceEqDiff, Nat.reduceBEq, beq_self_eq_true, Bool.not_true, Bool.not_false, Bool.and_true, Bool.and_false, Bool.true_and, Bool.false_and, gI_sI, gI_sL, gI_sA, gI_sM, gL_sI, gL_sL, gL_sA, gL_sM, aI_sI, aI_sL, aI_sA, aI_sM, aL_sI, aL_sL, aL_sA, aL_sM, oi_1]; try dsimp only
              unfold Qv_flowStep
              try dsimp only
              have es : fsS σ c = ((sI (beS (sM (sA σ 95 (upd (aI σ 95) (((aI σ 20) (c).toNatClampNeg)).toNatClampNeg 1)) 96 (vp_updL (aL σ 96) (((aI σ 20) (c).toNatClampNeg)).toNatClampNeg (nowR (sA σ 95 (upd (aI σ 95) (((aI σ 20) (c).toNatClampNeg)).toNatClampNeg 1))))) ((aL σ 99) (((aI σ 20) (c).toNatClampNeg)).toNatClampNeg)) 92 1), (c + 1)) := (fs_e52 (by show (aI σ 19 c.toNatClampNeg).toInt = 52; omega)).trans (by unfold fs_52; rw [if_pos (show 0 ≤ ((aI σ 57) (((aI σ 20) (c).toNatClampNeg)).toNatClampNeg) from h525), if_neg (show ¬ ((gI σ 92) = 0) from h527), if_neg (show ¬ (0 ≤ ((aI σ 57) (((aI σ 20) (c).toNatClampNeg)).toNatClampNeg)) from h532)])
              refine ⟨(gI σ 112), (gI σ 113), ⟨Or.inl, fun q => q.elim id (fun z => absurd z (fun z => z.elim (fun y => by omega) (fun y => by omega)))⟩, ?_, ?_⟩
              · rw [la_id]
                exact (congrArg Prod.fst es).symm
              · rw [la_id]
                exact congrArg (fun z => some (Value.int z)) (congrArg Prod.snd es).symm
          · refine hB _ _ _ _ _ (fun m548 hm548 => ?_)
            dsimp only [ugo, uwp, ust, uct, rfd, BflowStep, BflowStep_1228, Nat.beq, lv_args, rlk, rs1, rs2, rdl, rky, rcd, rno, rsw, Value.category, List.filter, List.take, List.drop, List.reverse, List.reverseAux, List.cons_append, List.nil_append, Option.toList, Int.toNat, Int.reduceToNat, if_pos, if_neg, reduceIte, ↓reduceIte, Nat.reduceAdd, Nat.reduceEqDiff, Nat.reduceBEq, beq_self_eq_true, Bool.not_true, Bool.not_false, Bool.and_true, Bool.and_false, Bool.true_and, Bool.false_and, gI_sI, gI_sL, gI_sA, gI_sM, gL_sI, gL_sL, gL_sA, gL_sM, aI_sI, aI_sL, aI_sA, aI_sM, aL_sI, aL_sL, aL_sA, aL_sM]; try dsimp only
            intro p549
            refine ⟨fun h550 => ?_, fun h550 => ?_⟩
            · refine hB _ _ _ _ _ (fun m551 hm551 => ?_)
              dsimp only [ugo, uwp, ust, uct, rfd, BflowStep, BflowStep_1241, Nat.beq, lv_args, rlk, rs1, rs2, rdl, rky, rcd, rno, rsw, Value.category, List.filter, List.take, List.drop, List.reverse, List.reverseAux, List.cons_append, List.nil_append, Option.toList, Int.toNat, Int.reduceToNat, if_pos, if_neg, reduceIte, ↓reduceIte, Nat.reduceAdd, Nat.reduceEqDiff, Nat.reduceBEq, beq_self_eq_true, Bool.not_true, Bool.not_false, Bool.and_true, Bool.and_false, Bool.true_and, Bool.false_and, gI_sI, gI_sL, gI_sA, gI_sM, gL_sI, gL_sL, gL_sA, gL_sM, aI_sI, aI_sL, aI_sA, aI_sM, aL_sI, aL_sL, aL_sA, aL_sM, oi_0]; try dsimp only
              refine hB _ _ _ _ _ (fun m552 hm552 => ?_)
              dsimp only [ugo, uwp, ust, uct, rfd, BflowStep, BflowStep_1242, Nat.beq, lv_args, rlk, rs1, rs2, rdl, rky, rcd, rno, rsw, Value.category, List.filter, List.take, List.drop, List.reverse, List.reverseAux, List.cons_append, List.nil_append, Option.toList, Int.toNat, Int.reduceToNat, if_pos, if_neg, reduceIte, ↓reduceIte, Nat.reduceAdd, Nat.reduceEqDiff, Nat.reduceBEq, beq_self_eq_true, Bool.not_true, Bool.not_false, Bool.and_true, Bool.and_false, Bool.true_and, Bool.false_and, gI_sI, gI_sL, gI_sA, gI_sM, gL_sI, gL_sL, gL_sA, gL_sM, aI_sI, aI_sL, aI_sA, aI_sM, aL_sI, aL_sL, aL_sA, aL_sM]; try dsimp only
              intro p553
              intro p554
              refine ⟨fun h555 => ?_, fun h555 => ?_⟩
              · refine hB _ _ _ _ _ (fun m556 hm556 => ?_)
                dsimp only [ugo, uwp, ust, uct, rfd, BflowStep, BflowStep_1264, Nat.beq, lv_args, rlk, rs1, rs2, rdl, rky, rcd, rno, rsw, Value.category, List.filter, List.take, List.drop, List.reverse, List.reverseAux, List.cons_append, List.nil_append, Option.toList, Int.toNat, Int.reduceToNat, if_pos, if_neg, reduceIte, ↓reduceIte, Nat.reduceAdd, Nat.reduceEqDiff, Nat.reduceBEq, beq_self_eq_true, Bool.not_true, Bool.not_false, Bool.and_true, Bool.and_false, Bool.true_and, Bool.false_and, gI_sI, gI_sL, gI_sA, gI_sM, gL_sI, gL_sL, gL_sA, gL_sM, aI_sI, aI_sL, aI_sA, aI_sM, aL_sI, aL_sL, aL_sA, aL_sM]; try dsimp only
                refine ⟨trivial, fun w557 τ557 hq557 => ?_⟩
                obtain ⟨rfl, rfl⟩ := hq557 trivial
                dsimp only [Option.toList, List.cons_append, List.nil_append, Nat.beq, gI_sI, gI_sL, gI_sA, gI_sM, gL_sI, gL_sL, gL_sA, gL_sM, aI_sI, aI_sL, aI_sA, aI_sM, aL_sI, aL_sL, aL_sA, aL_sM]
                intro p558
                refine hB _ _ _ _ _ (fun m559 hm559 => ?_)
                dsimp only [ugo, uwp, ust, uct, rfd, BflowStep, BflowStep_1275, Nat.beq, lv_args, rlk, rs1, rs2, rdl, rky, rcd, rno, rsw, Value.category, List.filter, List.take, List.drop, List.reverse, List.reverseAux, List.cons_append, List.nil_append, Option.toList, Int.toNat, Int.reduceToNat, if_pos, if_neg, reduceIte, ↓reduceIte, Nat.reduceAdd, Nat.reduceEqDiff, Nat.reduceBEq, beq_self_eq_true, Bool.not_true, Bool.not_false, Bool.and_true, Bool.and_false, Bool.true_and, Bool.false_and, gI_sI, gI_sL, gI_sA, gI_sM, gL_sI, gL_sL, gL_sA, gL_sM, aI_sI, aI_sL, aI_sA, aI_sM, aL_sI, aL_sL, aL_sA, aL_sM, oi_1]; try dsimp only
                intro p560
                intro p561
                refine ⟨trivial, fun w562 τ562 hq562 => ?_⟩
                obtain ⟨rfl, rfl⟩ := hq562 trivial
                dsimp only [Option.toList, List.cons_append, List.nil_append, Nat.beq, gI_sI, gI_sL, gI_sA, gI_sM, gL_sI, gL_sL, gL_sA, gL_sM, aI_sI, aI_sL, aI_sA, aI_sM, aL_sI, aL_sL, aL_sA, aL_sM]
                refine hB _ _ _ _ _ (fun m563 hm563 => ?_)
                dsimp only [ugo, uwp, ust, uct, rfd, BflowStep, BflowStep_1420, Nat.beq, lv_args, rlk, rs1, rs2, rdl, rky, rcd, rno, rsw, Value.category, List.filter, List.take, List.drop, List.reverse, List.reverseAux, List.cons_append, List.nil_append, Option.toList, Int.toNat, Int.reduceToNat, if_pos, if_neg, reduceIte, ↓reduceIte, Nat.reduceAdd, Nat.reduceEqDiff, Nat.reduceBEq, beq_self_eq_true, Bool.not_true, Bool.not_false, Bool.and_true, Bool.and_false, Bool.true_and, Bool.false_and, gI_sI, gI_sL, gI_sA, gI_sM, gL_sI, gL_sL, gL_sA, gL_sM, aI_sI, aI_sL, aI_sA, aI_sM, aL_sI, aL_sL, aL_sA, aL_sM, oi_1]; try dsimp only
                unfold Qv_flowStep
                try dsimp only
                have es : fsS σ c = ((sI (beS (sM (sA σ 95 (upd (aI σ 95) (((aI σ 20) (c).toNatClampNeg)).toNatClampNeg 0)) 96 (vp_updL (aL σ 96) (((aI σ 20) (c).toNatClampNeg)).toNatClampNeg ((nowR (sA σ 95 (upd (aI σ 95) (((aI σ 20) (c).toNatClampNeg)).toNatClampNeg 0))) &&& ((aL σ 96) (((aI σ 20) (c).toNatClampNeg)).toNatClampNeg)))) ((aL σ 99) (((aI σ 20) (c).toNatClampNeg)).toNatClampNeg)) 92 1), (c + 1)) := (fs_e52 (by show (aI σ 19 c.toNatClampNeg).toInt = 52; omega)).trans (by unfold fs_52; rw [if_pos (show 0 ≤ ((aI σ 57) (((aI σ 20) (c).toNatClampNeg)).toNatClampNeg) from h525), if_pos (show (gI σ 92) = 0 from h527), if_pos (show ((aI σ 95) (((aI σ 20) (c).toNatClampNeg)).toNatClampNeg) = 0 from h550), if_pos (show 0 ≤ ((aI σ 57) (((aI σ 20) (c).toNatClampNeg)).toNatClampNeg) from h555)])
                refine ⟨(gI σ 112), (gI σ 113), ⟨Or.inl, fun q => q.elim id (fun z => absurd z (fun z => z.elim (fun y => by omega) (fun y => by omega)))⟩, ?_, ?_⟩
                · rw [la_id]
                  exact (congrArg Prod.fst es).symm
                · rw [la_id]
                  exact congrArg (fun z => some (Value.int z)) (congrArg Prod.snd es).symm
              · refine hB _ _ _ _ _ (fun m564 hm564 => ?_)
                dsimp only [ugo, uwp, ust, uct, rfd, BflowStep, BflowStep_1257, Nat.beq, lv_args, rlk, rs1, rs2, rdl, rky, rcd, rno, rsw, Value.category, List.filter, List.take, List.drop, List.reverse, List.reverseAux, List.cons_append, List.nil_append, Option.toList, Int.toNat, Int.reduceToNat, if_pos, if_neg, reduceIte, ↓reduceIte, Nat.reduceAdd, Nat.reduceEqDiff, Nat.reduceBEq, beq_self_eq_true, Bool.not_true, Bool.not_false, Bool.and_true, Bool.and_false, Bool.true_and, Bool.false_and, gI_sI, gI_sL, gI_sA, gI_sM, gL_sI, gL_sL, gL_sA, gL_sM, aI_sI, aI_sL, aI_sA, aI_sM, aL_sI, aL_sL, aL_sA, aL_sM]; try dsimp only
                refine ⟨trivial, fun w565 τ565 hq565 => ?_⟩
                obtain ⟨rfl, rfl⟩ := hq565 trivial
                dsimp only [Option.toList, List.cons_append, List.nil_append, Nat.beq, gI_sI, gI_sL, gI_sA, gI_sM, gL_sI, gL_sL, gL_sA, gL_sM, aI_sI, aI_sL, aI_sA, aI_sM, aL_sI, aL_sL, aL_sA, aL_sM]
                refine hB _ _ _ _ _ (fun m566 hm566 => ?_)
                dsimp only [ugo, uwp, ust, uct, rfd, BflowStep, BflowStep_1275, Nat.beq, lv_args, rlk, rs1, rs2, rdl, rky, rcd, rno, rsw, Value.category, List.filter, List.take, List.drop, List.reverse, List.reverseAux, List.cons_append, List.nil_append, Option.toList, Int.toNat, Int.reduceToNat, if_pos, if_neg, reduceIte, ↓reduceIte, Nat.reduceAdd, Nat.reduceEqDiff, Nat.reduceBEq, beq_self_eq_true, Bool.not_true, Bool.not_false, Bool.and_true, Bool.and_false, Bool.true_and, Bool.false_and, gI_sI, gI_sL, gI_sA, gI_sM, gL_sI, gL_sL, gL_sA, gL_sM, aI_sI, aI_sL, aI_sA, aI_sM, aL_sI, aL_sL, aL_sA, aL_sM, oi_1]; try dsimp only
                intro p567
                intro p568
                refine ⟨trivial, fun w569 τ569 hq569 => ?_⟩
                obtain ⟨rfl, rfl⟩ := hq569 trivial
                dsimp only [Option.toList, List.cons_append, List.nil_append, Nat.beq, gI_sI, gI_sL, gI_sA, gI_sM, gL_sI, gL_sL, gL_sA, gL_sM, aI_sI, aI_sL, aI_sA, aI_sM, aL_sI, aL_sL, aL_sA, aL_sM]
                refine hB _ _ _ _ _ (fun m570 hm570 => ?_)
                dsimp only [ugo, uwp, ust, uct, rfd, BflowStep, BflowStep_1420, Nat.beq, lv_args, rlk, rs1, rs2, rdl, rky, rcd, rno, rsw, Value.category, List.filter, List.take, List.drop, List.reverse, List.reverseAux, List.cons_append, List.nil_append, Option.toList, Int.toNat, Int.reduceToNat, if_pos, if_neg, reduceIte, ↓reduceIte, Nat.reduceAdd, Nat.reduceEqDiff, Nat.reduceBEq, beq_self_eq_true, Bool.not_true, Bool.not_false, Bool.and_true, Bool.and_false, Bool.true_and, Bool.false_and, gI_sI, gI_sL, gI_sA, gI_sM, gL_sI, gL_sL, gL_sA, gL_sM, aI_sI, aI_sL, aI_sA, aI_sM, aL_sI, aL_sL, aL_sA, aL_sM, oi_1]; try dsimp only
                unfold Qv_flowStep
                try dsimp only
                have es : fsS σ c = ((sI (beS (sM (sA σ 95 (upd (aI σ 95) (((aI σ 20) (c).toNatClampNeg)).toNatClampNeg 0)) 96 (vp_updL (aL σ 96) (((aI σ 20) (c).toNatClampNeg)).toNatClampNeg (nowR (sA σ 95 (upd (aI σ 95) (((aI σ 20) (c).toNatClampNeg)).toNatClampNeg 0))))) ((aL σ 99) (((aI σ 20) (c).toNatClampNeg)).toNatClampNeg)) 92 1), (c + 1)) := (fs_e52 (by show (aI σ 19 c.toNatClampNeg).toInt = 52; omega)).trans (by unfold fs_52; rw [if_pos (show 0 ≤ ((aI σ 57) (((aI σ 20) (c).toNatClampNeg)).toNatClampNeg) from h525), if_pos (show (gI σ 92) = 0 from h527), if_pos (show ((aI σ 95) (((aI σ 20) (c).toNatClampNeg)).toNatClampNeg) = 0 from h550), if_neg (show ¬ (0 ≤ ((aI σ 57) (((aI σ 20) (c).toNatClampNeg)).toNatClampNeg)) from h555)])
                refine ⟨(gI σ 112), (gI σ 113), ⟨Or.inl, fun q => q.elim id (fun z => absurd z (fun z => z.elim (fun y => by omega) (fun y => by omega)))⟩, ?_, ?_⟩
                · rw [la_id]
                  exact (congrArg Prod.fst es).symm
                · rw [la_id]
                  exact congrArg (fun z => some (Value.int z)) (congrArg Prod.snd es).symm
            · refine hB _ _ _ _ _ (fun m571 hm571 => ?_)
              dsimp only [ugo, uwp, ust, uct, rfd, BflowStep, BflowStep_1237, Nat.beq, lv_args, rlk, rs1, rs2, rdl, rky, rcd, rno, rsw, Value.category, List.filter, List.take, List.drop, List.reverse, List.reverseAux, List.cons_append, List.nil_append, Option.toList, Int.toNat, Int.reduceToNat, if_pos, if_neg, reduceIte, ↓reduceIte, Nat.reduceAdd, Nat.reduceEqDiff, Nat.reduceBEq, beq_self_eq_true, Bool.not_true, Bool.not_false, Bool.and_true, Bool.and_false, Bool.true_and, Bool.false_and, gI_sI, gI_sL, gI_sA, gI_sM, gL_sI, gL_sL, gL_sA, gL_sM, aI_sI, aI_sL, aI_sA, aI_sM, aL_sI, aL_sL, aL_sA, aL_sM, oi_1]; try dsimp only
              refine hB _ _ _ _ _ (fun m572 hm572 => ?_)
              dsimp only [ugo, uwp, ust, uct, rfd, BflowStep, BflowStep_1242, Nat.beq, lv_args, rlk, rs1, rs2, rdl, rky, rcd, rno, rsw, Value.category, List.filter, List.take, List.drop, List.reverse, List.reverseAux, List.cons_append, List.nil_append, Option.toList, Int.toNat, Int.reduceToNat, if_pos, if_neg, reduceIte, ↓reduceIte, Nat.reduceAdd, Nat.reduceEqDiff, Nat.reduceBEq, beq_self_eq_true, Bool.not_true, Bool.not_false, Bool.and_true, Bool.and_false, Bool.true_and, Bool.false_and, gI_sI, gI_sL, gI_sA, gI_sM, gL_sI, gL_sL, gL_sA, gL_sM, aI_sI, aI_sL, aI_sA, aI_sM, aL_sI, aL_sL, aL_sA, aL_sM]; try dsimp only
              intro p573
              intro p574
              refine ⟨fun h575 => ?_, fun h575 => ?_⟩
              · refine hB _ _ _ _ _ (fun m576 hm576 => ?_)
                dsimp only [ugo, uwp, ust, uct, rfd, BflowStep, BflowStep_1264, Nat.beq, lv_args, rlk, rs1, rs2, rdl, rky, rcd, rno, rsw, Value.category, List.filter, List.take, List.drop, List.reverse, List.reverseAux, List.cons_append, List.nil_append, Option.toList, Int.toNat, Int.reduceToNat, if_pos, if_neg, reduceIte, ↓reduceIte, Nat.reduceAdd, Nat.reduceEqDiff, Nat.reduceBEq, beq_self_eq_true, Bool.not_true, Bool.not_false, Bool.and_true, Bool.and_false, Bool.true_and, Bool.false_and, gI_sI, gI_sL, gI_sA, gI_sM, gL_sI, gL_sL, gL_sA, gL_sM, aI_sI, aI_sL, aI_sA, aI_sM, aL_sI, aL_sL, aL_sA, aL_sM]; try dsimp only
                refine ⟨trivial, fun w577 τ577 hq577 => ?_⟩
                obtain ⟨rfl, rfl⟩ := hq577 trivial
                dsimp only [Option.toList, List.cons_append, List.nil_append, Nat.beq, gI_sI, gI_sL, gI_sA, gI_sM, gL_sI, gL_sL, gL_sA, gL_sM, aI_sI, aI_sL, aI_sA, aI_sM, aL_sI, aL_sL, aL_sA, aL_sM]
                intro p578
                refine hB _ _ _ _ _ (fun m579 hm579 => ?_)
                dsimp only [ugo, uwp, ust, uct, rfd, BflowStep, BflowStep_1275, Nat.beq, lv_args, rlk, rs1, rs2, rdl, rky, rcd, rno, rsw, Value.category, List.filter, List.take, List.drop, List.reverse, List.reverseAux, List.cons_append, List.nil_append, Option.toList, Int.toNat, Int.reduceToNat, if_pos, if_neg, reduceIte, ↓reduceIte, Nat.reduceAdd, Nat.reduceEqDiff, Nat.reduceBEq, beq_self_eq_true, Bool.not_true, Bool.not_false, Bool.and_true, Bool.and_false, Bool.true_and, Bool.false_and, gI_sI, gI_sL, gI_sA, gI_sM, gL_sI, gL_sL, gL_sA, gL_sM, aI_sI, aI_sL, aI_sA, aI_sM, aL_sI, aL_sL, aL_sA, aL_sM, oi_1]; try dsimp only
                intro p580
                intro p581
                refine ⟨trivial, fun w582 τ582 hq582 => ?_⟩
                obtain ⟨rfl, rfl⟩ := hq582 trivial
                dsimp only [Option.toList, List.cons_append, List.nil_append, Nat.beq, gI_sI, gI_sL, gI_sA, gI_sM, gL_sI, gL_sL, gL_sA, gL_sM, aI_sI, aI_sL, aI_sA, aI_sM, aL_sI, aL_sL, aL_sA, aL_sM]
                refine hB _ _ _ _ _ (fun m583 hm583 => ?_)
                dsimp only [ugo, uwp, ust, uct, rfd, BflowStep, BflowStep_1420, Nat.beq, lv_args, rlk, rs1, rs2, rdl, rky, rcd, rno, rsw, Value.category, List.filter, List.take, List.drop, List.reverse, List.reverseAux, List.cons_append, List.nil_append, Option.toList, Int.toNat, Int.reduceToNat, if_pos, if_neg, reduceIte, ↓reduceIte, Nat.reduceAdd, Nat.reduceEqDiff, Nat.reduceBEq, beq_self_eq_true, Bool.not_true, Bool.not_false, Bool.and_true, Bool.and_false, Bool.true_and, Bool.false_and, gI_sI, gI_sL, gI_sA, gI_sM, gL_sI, gL_sL, gL_sA, gL_sM, aI_sI, aI_sL, aI_sA, aI_sM, aL_sI, aL_sL, aL_sA, aL_sM, oi_1]; try dsimp only
                unfold Qv_flowStep
                try dsimp only
                have es : fsS σ c = ((sI (beS (sM (sA σ 95 (upd (aI σ 95) (((aI σ 20) (c).toNatClampNeg)).toNatClampNeg 1)) 96 (vp_updL (aL σ 96) (((aI σ 20) (c).toNatClampNeg)).toNatClampNeg ((nowR (sA σ 95 (upd (aI σ 95) (((aI σ 20) (c).toNatClampNeg)).toNatClampNeg 1))) &&& ((aL σ 96) (((aI σ 20) (c).toNatClampNeg)).toNatClampNeg)))) ((aL σ 99) (((aI σ 20) (c).toNatClampNeg)).toNatClampNeg)) 92 1), (c + 1)) := (fs_e52 (by show (aI σ 19 c.toNatClampNeg).toInt = 52; omega)).trans (by unfold fs_52; rw [if_pos (show 0 ≤ ((aI σ 57) (((aI σ 20) (c).toNatClampNeg)).toNatClampNeg) from h525), if_pos (show (gI σ 92) = 0 from h527), if_neg (show ¬ (((aI σ 95) (((aI σ 20) (c).toNatClampNeg)).toNatClampNeg) = 0) from h550), if_pos (show 0 ≤ ((aI σ 57) (((aI σ 20) (c).toNatClampNeg)).toNatClampNeg) from h575)])
                refine ⟨(gI σ 112), (gI σ 113), ⟨Or.inl, fun q => q.elim id (fun z => absurd z (fun z => z.elim (fun y => by omega) (fun y => by omega)))⟩, ?_, ?_⟩
                · rw [la_id]
                  exact (congrArg Prod.fst es).symm
                · rw [la_id]
                  exact congrArg (fun z => some (Value.int z)) (congrArg Prod.snd es).symm
              · refine hB _ _ _ _ _ (fun m584 hm584 => ?_)
                dsimp only [ugo, uwp, ust, uct, rfd, BflowStep, BflowStep_1257, Nat.beq, lv_args, rlk, rs1, rs2, rdl, rky, rcd, rno, rsw, Value.category, List.filter, List.take, List.drop, List.reverse, List.reverseAux, List.cons_append, List.nil_append, Option.toList, Int.toNat, Int.reduceToNat, if_pos, if_neg, reduceIte, ↓reduceIte, Nat.reduceAdd, Nat.reduceEqDiff, Nat.reduceBEq, beq_self_eq_true, Bool.not_true, Bool.not_false, Bool.and_true, Bool.and_false, Bool.true_and, Bool.false_and, gI_sI, gI_sL, gI_sA, gI_sM, gL_sI, gL_sL, gL_sA, gL_sM, aI_sI, aI_sL, aI_sA, aI_sM, aL_sI, aL_sL, aL_sA, aL_sM]; try dsimp only
                refine ⟨trivial, fun w585 τ585 hq585 => ?_⟩
                obtain ⟨rfl, rfl⟩ := hq585 trivial
                dsimp only [Option.toList, List.cons_append, List.nil_append, Nat.beq, gI_sI, gI_sL, gI_sA, gI_sM, gL_sI, gL_sL, gL_sA, gL_sM, aI_sI, aI_sL, aI_sA, aI_sM, aL_sI, aL_sL, aL_sA, aL_sM]
                refine hB _ _ _ _ _ (fun m586 hm586 => ?_)
                dsimp only [ugo, uwp, ust, uct, rfd, BflowStep, BflowStep_1275, Nat.beq, lv_args, rlk, rs1, rs2, rdl, rky, rcd, rno, rsw, Value.category, List.filter, List.take, List.drop, List.reverse, List.reverseAux, List.cons_append, List.nil_append, Option.toList, Int.toNat, Int.reduceToNat, if_pos, if_neg, reduceIte, ↓reduceIte, Nat.reduceAdd, Nat.reduceEqDiff, Nat.reduceBEq, beq_self_eq_true, Bool.not_true, Bool.not_false, Bool.and_true, Bool.and_false, Bool.true_and, Bool.false_and, gI_sI, gI_sL, gI_sA, gI_sM, gL_sI, gL_sL, gL_sA, gL_sM, aI_sI, aI_sL, aI_sA, aI_sM, aL_sI, aL_sL, aL_sA, aL_sM, oi_1]; try dsimp only
                intro p587
                intro p588
                refine ⟨trivial, fun w589 τ589 hq589 => ?_⟩
                obtain ⟨rfl, rfl⟩ := hq589 trivial
                dsimp only [Option.toList, List.cons_append, List.nil_append, Nat.beq, gI_sI, gI_sL, gI_sA, gI_sM, gL_sI, gL_sL, gL_sA, gL_sM, aI_sI, aI_sL, aI_sA, aI_sM, aL_sI, aL_sL, aL_sA, aL_sM]
                refine hB _ _ _ _ _ (fun m590 hm590 => ?_)
                dsimp only [ugo, uwp, ust, uct, rfd, BflowStep, BflowStep_1420, Nat.beq, lv_args, rlk, rs1, rs2, rdl, rky, rcd, rno, rsw, Value.category, List.filter, List.take, List.drop, List.reverse, List.reverseAux, List.cons_append, List.nil_append, Option.toList, Int.toNat, Int.reduceToNat, if_pos, if_neg, reduceIte, ↓reduceIte, Nat.reduceAdd, Nat.reduceEqDiff, Nat.reduceBEq, beq_self_eq_true, Bool.not_true, Bool.not_false, Bool.and_true, Bool.and_false, Bool.true_and, Bool.false_and, gI_sI, gI_sL, gI_sA, gI_sM, gL_sI, gL_sL, gL_sA, gL_sM, aI_sI, aI_sL, aI_sA, aI_sM, aL_sI, aL_sL, aL_sA, aL_sM, oi_1]; try dsimp only
                unfold Qv_flowStep
                try dsimp only
                have es : fsS σ c = ((sI (beS (sM (sA σ 95 (upd (aI σ 95) (((aI σ 20) (c).toNatClampNeg)).toNatClampNeg 1)) 96 (vp_updL (aL σ 96) (((aI σ 20) (c).toNatClampNeg)).toNatClampNeg (nowR (sA σ 95 (upd (aI σ 95) (((aI σ 20) (c).toNatClampNeg)).toNatClampNeg 1))))) ((aL σ 99) (((aI σ 20) (c).toNatClampNeg)).toNatClampNeg)) 92 1), (c + 1)) := (fs_e52 (by show (aI σ 19 c.toNatClampNeg).toInt = 52; omega)).trans (by unfold fs_52; rw [if_pos (show 0 ≤ ((aI σ 57) (((aI σ 20) (c).toNatClampNeg)).toNatClampNeg) from h525), if_pos (show (gI σ 92) = 0 from h527), if_neg (show ¬ (((aI σ 95) (((aI σ 20) (c).toNatClampNeg)).toNatClampNeg) = 0) from h550), if_neg (show ¬ (0 ≤ ((aI σ 57) (((aI σ 20) (c).toNatClampNeg)).toNatClampNeg)) from h575)])
                refine ⟨(gI σ 112), (gI σ 113), ⟨Or.inl, fun q => q.elim id (fun z => absurd z (fun z => z.elim (fun y => by omega) (fun y => by omega)))⟩, ?_, ?_⟩
                · rw [la_id]
                  exact (congrArg Prod.fst es).symm
                · rw [la_id]
                  exact congrArg (fun z => some (Value.int z)) (congrArg Prod.snd es).symm
        · refine hB _ _ _ _ _ (fun m591 hm591 => ?_)
          dsimp only [ugo, uwp, ust, uct, rfd, BflowStep, BflowStep_1214, Nat.beq, lv_args, rlk, rs1, rs2, rdl, rky, rcd, rno, rsw, Value.category, List.filter, List.take, List.drop, List.reverse, List.reverseAux, List.cons_append, List.nil_append, Option.toList, Int.toNat, Int.reduceToNat, if_pos, if_neg, reduceIte, ↓reduceIte, Nat.reduceAdd, Nat.reduceEqDiff, Nat.reduceBEq, beq_self_eq_true, Bool.not_true, Bool.not_false, Bool.and_true, Bool.and_false, Bool.true_and, Bool.false_and, gI_sI, gI_sL, gI_sA, gI_sM, gL_sI, gL_sL, gL_sA, gL_sM, aI_sI, aI_sL, aI_sA, aI_sM, aL_sI, aL_sL, aL_sA, aL_sM]; try dsimp only
          refine hB _ _ _ _ _ (fun m592 hm592 => ?_)
          dsimp only [ugo, uwp, ust, uct, rfd, BflowStep, BflowStep_1242, Nat.beq, lv_args, rlk, rs1, rs2, rdl, rky, rcd, rno, rsw, Value.category, List.filter, List.take, List.drop, List.reverse, List.reverseAux, List.cons_append, List.nil_append, Option.toList, Int.toNat, Int.reduceToNat, if_pos, if_neg, reduceIte, ↓reduceIte, Nat.reduceAdd, Nat.reduceEqDiff, Nat.reduceBEq, beq_self_eq_true, Bool.not_true, Bool.not_false, Bool.and_true, Bool.and_false, Bool.true_and, Bool.false_and, gI_sI, gI_sL, gI_sA, gI_sM, gL_sI, gL_sL, gL_sA, gL_sM, aI_sI, aI_sL, aI_sA, aI_sM, aL_sI, aL_sL, aL_sA, aL_sM]; try dsimp only
          intro p593
          intro p594
          refine ⟨fun h595 => ?_, fun h595 => ?_⟩
          · refine hB _ _ _ _ _ (fun m596 hm596 => ?_)
            dsimp only [ugo, uwp, ust, uct, rfd, BflowStep, BflowStep_1264, Nat.beq, lv_args, rlk, rs1, rs2, rdl, rky, rcd, rno, rsw, Value.category, List.filter, List.take, List.drop, List.reverse, List.reverseAux, List.cons_append, List.nil_append, Option.toList, Int.toNat, Int.reduceToNat, if_pos, if_neg, reduceIte, ↓reduceIte, Nat.reduceAdd, Nat.reduceEqDiff, Nat.reduceBEq, beq_self_eq_true, Bool.not_true, Bool.not_false, Bool.and_true, Bool.and_false, Bool.true_and, Bool.false_and, gI_sI, gI_sL, gI_sA, gI_sM, gL_sI, gL_sL, gL_sA, gL_sM, aI_sI, aI_sL, aI_sA, aI_sM, aL_sI, aL_sL, aL_sA, aL_sM]; try dsimp only
            refine ⟨trivial, fun w597 τ597 hq597 => ?_⟩
            obtain ⟨rfl, rfl⟩ := hq597 trivial
            dsimp only [Option.toList, List.cons_append, List.nil_append, Nat.beq, gI_sI, gI_sL, gI_sA, gI_sM, gL_sI, gL_sL, gL_sA, gL_sM, aI_sI, aI_sL, aI_sA, aI_sM, aL_sI, aL_sL, aL_sA, aL_sM]
            intro p598
            refine hB _ _ _ _ _ (fun m599 hm599 => ?_)
            dsimp only [ugo, uwp, ust, uct, rfd, BflowStep, BflowStep_1275, Nat.beq, lv_args, rlk, rs1, rs2, rdl, rky, rcd, rno, rsw, Value.category, List.filter, List.take, List.drop, List.reverse, List.reverseAux, List.cons_append, List.nil_append, Option.toList, Int.toNat, Int.reduceToNat, if_pos, if_neg, reduceIte, ↓reduceIte, Nat.reduceAdd, Nat.reduceEqDiff, Nat.reduceBEq, beq_self_eq_true, Bool.not_true, Bool.not_false, Bool.and_true, Bool.and_false, Bool.true_and, Bool.false_and, gI_sI, gI_sL, gI_sA, gI_sM, gL_sI, gL_sL, gL_sA, gL_sM, aI_sI, aI_sL, aI_sA, aI_sM, aL_sI, aL_sL, aL_sA, aL_sM, oi_1]; try dsimp only
            intro p600
            intro p601
            refine ⟨trivial, fun w602 τ602 hq602 => ?_⟩
            obtain ⟨rfl, rfl⟩ := hq602 trivial
            dsimp only [Option.toList, List.cons_append, List.nil_append, Nat.beq, gI_sI, gI_sL, gI_sA, gI_sM, gL_sI, gL_sL, gL_sA, gL_sM, aI_sI, aI_sL, aI_sA, aI_sM, aL_sI, aL_sL, aL_sA, aL_sM]
            refine hB _ _ _ _ _ (fun m603 hm603 => ?_)
            dsimp only [ugo, uwp, ust, uct, rfd, BflowStep, BflowStep_1420, Nat.beq, lv_args, rlk, rs1, rs2, rdl, rky, rcd, rno, rsw, Value.category, List.filter, List.take, List.drop, List.reverse, List.reverseAux, List.cons_append, List.nil_append, Option.toList, Int.toNat, Int.reduceToNat, if_pos, if_neg, reduceIte, ↓reduceIte, Nat.reduceAdd, Nat.reduceEqDiff, Nat.reduceBEq, beq_self_eq_true, Bool.not_true, Bool.not_false, Bool.and_true, Bool.and_false, Bool.true_and, Bool.false_and, gI_sI, gI_sL, gI_sA, gI_sM, gL_sI, gL_sL, gL_sA, gL_sM, aI_sI, aI_sL, aI_sA, aI_sM, aL_sI, aL_sL, aL_sA, aL_sM, oi_1]; try dsimp only
            unfold Qv_flowStep
            try dsimp only
            have es : fsS σ c = ((sI (beS (sM (sA σ 95 (upd (aI σ 95) (((aI σ 20) (c).toNatClampNeg)).toNatClampNeg (gI σ 92))) 96 (vp_updL (aL σ 96) (((aI σ 20) (c).toNatClampNeg)).toNatClampNeg ((nowR (sA σ 95 (upd (aI σ 95) (((aI σ 20) (c).toNatClampNeg)).toNatClampNeg (gI σ 92)))) &&& ((aL σ 96) (((aI σ 20) (c).toNatClampNeg)).toNatClampNeg)))) ((aL σ 99) (((aI σ 20) (c).toNatClampNeg)).toNatClampNeg)) 92 1), (c + 1)) := (fs_e52 (by show (aI σ 19 c.toNatClampNeg).toInt = 52; omega)).trans (by unfold fs_52; rw [if_neg (show ¬ (0 ≤ ((aI σ 57) (((aI σ 20) (c).toNatClampNeg)).toNatClampNeg)) from h525), if_pos (show 0 ≤ ((aI σ 57) (((aI σ 20) (c).toNatClampNeg)).toNatClampNeg) from h595)])
            refine ⟨(gI σ 112), (gI σ 113), ⟨Or.inl, fun q => q.elim id (fun z => absurd z (fun z => z.elim (fun y => by omega) (fun y => by omega)))⟩, ?_, ?_⟩
            · rw [la_id]
              exact (congrArg Prod.fst es).symm
            · rw [la_id]
              exact congrArg (fun z => some (Value.int z)) (congrArg Prod.snd es).symm
          · refine hB _ _ _ _ _ (fun m604 hm604 => ?_)
            dsimp only [ugo, uwp, ust, uct, rfd, BflowStep, BflowStep_1257, Nat.beq, lv_args, rlk, rs1, rs2, rdl, rky, rcd, rno, rsw, Value.category, List.filter, List.take, List.drop, List.reverse, List.reverseAux, List.cons_append, List.nil_append, Option.toList, Int.toNat, Int.reduceToNat, if_pos, if_neg, reduceIte, ↓reduceIte, Nat.reduceAdd, Nat.reduceEqDiff, Nat.reduceBEq, beq_self_eq_true, Bool.not_true, Bool.not_false, Bool.and_true, Bool.and_false, Bool.true_and, Bool.false_and, gI_sI, gI_sL, gI_sA, gI_sM, gL_sI, gL_sL, gL_sA, gL_sM, aI_sI, aI_sL, aI_sA, aI_sM, aL_sI, aL_sL, aL_sA, aL_sM]; try dsimp only
            refine ⟨trivial, fun w605 τ605 hq605 => ?_⟩
            obtain ⟨rfl, rfl⟩ := hq605 trivial
            dsimp only [Option.toList, List.cons_append, List.nil_append, Nat.beq, gI_sI, gI_sL, gI_sA, gI_sM, gL_sI, gL_sL, gL_sA, gL_sM, aI_sI, aI_sL, aI_sA, aI_sM, aL_sI, aL_sL, aL_sA, aL_sM]
            refine hB _ _ _ _ _ (fun m606 hm606 => ?_)
            dsimp only [ugo, uwp, ust, uct, rfd, BflowStep, BflowStep_1275, Nat.beq, lv_args, rlk, rs1, rs2, rdl, rky, rcd, rno, rsw, Value.category, List.filter, List.take, List.drop, List.reverse, List.reverseAux, List.cons_append, List.nil_append, Option.toList, Int.toNat, Int.reduceToNat, if_pos, if_neg, reduceIte, ↓reduceIte, Nat.reduceAdd, Nat.reduceEqDiff, Nat.reduceBEq, beq_self_eq_true, Bool.not_true, Bool.not_false, Bool.and_true, Bool.and_false, Bool.true_and, Bool.false_and, gI_sI, gI_sL, gI_sA, gI_sM, gL_sI, gL_sL, gL_sA, gL_sM, aI_sI, aI_sL, aI_sA, aI_sM, aL_sI, aL_sL, aL_sA, aL_sM, oi_1]; try dsimp only
            intro p607
            intro p608
            refine ⟨trivial, fun w609 τ609 hq609 => ?_⟩
            obtain ⟨rfl, rfl⟩ := hq609 trivial
            dsimp only [Option.toList, List.cons_append, List.nil_append, Nat.beq, gI_sI, gI_sL, gI_sA, gI_sM, gL_sI, gL_sL, gL_sA, gL_sM, aI_sI, aI_sL, aI_sA, aI_sM, aL_sI, aL_sL, aL_sA, aL_sM]
            refine hB _ _ _ _ _ (fun m610 hm610 => ?_)
            dsimp only [ugo, uwp, ust, uct, rfd, BflowStep, BflowStep_1420, Nat.beq, lv_args, rlk, rs1, rs2, rdl, rky, rcd, rno, rsw, Value.category, List.filter, List.take, List.drop, List.reverse, List.reverseAux, List.cons_append, List.nil_append, Option.toList, Int.toNat, Int.reduceToNat, if_pos, if_neg, reduceIte, ↓reduceIte, Nat.reduceAdd, Nat.reduceEqDiff, Nat.reduceBEq, beq_self_eq_true, Bool.not_true, Bool.not_false, Bool.and_true, Bool.and_false, Bool.true_and, Bool.false_and, gI_sI, gI_sL, gI_sA, gI_sM, gL_sI, gL_sL, gL_sA, gL_sM, aI_sI, aI_sL, aI_sA, aI_sM, aL_sI, aL_sL, aL_sA, aL_sM, oi_1]; try dsimp only
            unfold Qv_flowStep
            try dsimp only
            have es : fsS σ c = ((sI (beS (sM (sA σ 95 (upd (aI σ 95) (((aI σ 20) (c).toNatClampNeg)).toNatClampNeg (gI σ 92))) 96 (vp_updL (aL σ 96) (((aI σ 20) (c).toNatClampNeg)).toNatClampNeg (nowR (sA σ 95 (upd (aI σ 95) (((aI σ 20) (c).toNatClampNeg)).toNatClampNeg (gI σ 92)))))) ((aL σ 99) (((aI σ 20) (c).toNatClampNeg)).toNatClampNeg)) 92 1), (c + 1)) := (fs_e52 (by show (aI σ 19 c.toNatClampNeg).toInt = 52; omega)).trans (by unfold fs_52; rw [if_neg (show ¬ (0 ≤ ((aI σ 57) (((aI σ 20) (c).toNatClampNeg)).toNatClampNeg)) from h525), if_neg (show ¬ (0 ≤ ((aI σ 57) (((aI σ 20) (c).toNatClampNeg)).toNatClampNeg)) from h595)])
            refine ⟨(gI σ 112), (gI σ 113), ⟨Or.inl, fun q => q.elim id (fun z => absurd z (fun z => z.elim (fun y => by omega) (fun y => by omega)))⟩, ?_, ?_⟩
            · rw [la_id]
              exact (congrArg Prod.fst es).symm
            · rw [la_id]
              exact congrArg (fun z => some (Value.int z)) (congrArg Prod.snd es).symm
      have c522 : ¬ (aI σ 19 c.toNatClampNeg).toInt = 52 := fun q => h522 ((rfl : (aI σ 19 c.toNatClampNeg).toInt = (aI σ 19 c.toNatClampNeg).toInt).trans q)
      refine ⟨fun h611 => ?_, fun h611 => ?_⟩
      · have c611 : (aI σ 19 c.toNatClampNeg).toInt = 53 := (rfl : (aI σ 19 c.toNatClampNeg).toInt = (aI σ 19 c.toNatClampNeg).toInt).symm.trans h611
        refine hB _ _ _ _ _ (fun m612 hm612 => ?_)
        dsimp only [ugo, uwp, ust, uct, rfd, BflowStep, BflowStep_1294, Nat.beq, lv_args, rlk, rs1, rs2, rdl, rky, rcd, rno, rsw, Value.category, List.filter, List.take, List.drop, List.reverse, List.reverseAux, List.cons_append, List.nil_append, Option.toList, Int.toNat, Int.reduceToNat, if_pos, if_neg, reduceIte, ↓reduceIte, Nat.reduceAdd, Nat.reduceEqDiff, Nat.reduceBEq, beq_self_eq_true, Bool.not_true, Bool.not_false, Bool.and_true, Bool.and_false, Bool.true_and, Bool.false_and, gI_sI, gI_sL, gI_sA, gI_sM, gL_sI, gL_sL, gL_sA, gL_sM, aI_sI, aI_sL, aI_sA, aI_sM, aL_sI, aL_sL, aL_sA, aL_sM]; try dsimp only
        intro p613
        refine ⟨fun h614 => ?_, fun h614 => ?_⟩
        · refine hB _ _ _ _ _ (fun m615 hm615 => ?_)
          dsimp only [ugo, uwp, ust, uct, rfd, BflowStep, BflowStep_1351, Nat.beq, lv_args, rlk, rs1, rs2, rdl, rky, rcd, rno, rsw, Value.category, List.filter, List.take, List.drop, List.reverse, List.reverseAux, List.cons_append, List.nil_append, Option.toList, Int.toNat, Int.reduceToNat, if_pos, if_neg, reduceIte, ↓reduceIte, Nat.reduceAdd, Nat.reduceEqDiff, Nat.reduceBEq, beq_self_eq_true, Bool.not_true, Bool.not_false, Bool.and_true, Bool.and_false, Bool.true_and, Bool.false_and, gI_sI, gI_sL, gI_sA, gI_sM, gL_sI, gL_sL, gL_sA, gL_sM, aI_sI, aI_sL, aI_sA, aI_sM, aL_sI, aL_sL, aL_sA, aL_sM]; try dsimp only
          refine ⟨fun h616 => ?_, fun h616 => ?_⟩
          · refine hB _ _ _ _ _ (fun m617 hm617 => ?_)
            dsimp only [ugo, uwp, ust, uct, rfd, BflowStep, BflowStep_1368, Nat.beq, lv_args, rlk, rs1, rs2, rdl, rky, rcd, rno, rsw, Value.category, List.filter, List.take, List.drop, List.reverse, List.reverseAux, List.cons_append, List.nil_append, Option.toList, Int.toNat, Int.reduceToNat, if_pos, if_neg, reduceIte, ↓reduceIte, Nat.reduceAdd, Nat.reduceEqDiff, Nat.reduceBEq, beq_self_eq_true, Bool.not_true, Bool.not_false, Bool.and_true, Bool.and_false, Bool.true_and, Bool.false_and, gI_sI, gI_sL, gI_sA, gI_sM, gL_sI, gL_sL, gL_sA, gL_sM, aI_sI, aI_sL, aI_sA, aI_sM, aL_sI, aL_sL, aL_sA, aL_sM, oi_1]; try dsimp only
            refine hB _ _ _ _ _ (fun m618 hm618 => ?_)
            dsimp only [ugo, uwp, ust, uct, rfd, BflowStep, BflowStep_1373, Nat.beq, lv_args, rlk, rs1, rs2, rdl, rky, rcd, rno, rsw, Value.category, List.filter, List.take, List.drop, List.reverse, List.reverseAux, List.cons_append, List.nil_append, Option.toList, Int.toNat, Int.reduceToNat, if_pos, if_neg, reduceIte, ↓reduceIte, Nat.reduceAdd, Nat.reduceEqDiff, Nat.reduceBEq, beq_self_eq_true, Bool.not_true, Bool.not_false, Bool.and_true, Bool.and_false, Bool.true_and, Bool.false_and, gI_sI, gI_sL, gI_sA, gI_sM, gL_sI, gL_sL, gL_sA, gL_sM, aI_sI, aI_sL, aI_sA, aI_sM, aL_sI, aL_sL, aL_sA, aL_sM]; try dsimp only
            refine ⟨trivial, fun w619 τ619 hq619 => ?_⟩
            obtain ⟨rfl, rfl⟩ := hq619 trivial
            dsimp only [Option.toList, List.cons_append, List.nil_append, Nat.beq, gI_sI, gI_sL, gI_sA, gI_sM, gL_sI, gL_sL, gL_sA, gL_sM, aI_sI, aI_sL, aI_sA, aI_sM, aL_sI, aL_sL, aL_sA, aL_sM]
            intro p620
            refine ⟨trivial, fun w621 τ621 hq621 => ?_⟩
            obtain ⟨rfl, rfl⟩ := hq621 trivial
            dsimp only [Option.toList, List.cons_append, List.nil_append, Nat.beq, gI_sI, gI_sL, gI_sA, gI_sM, gL_sI, gL_sL, gL_sA, gL_sM, aI_sI, aI_sL, aI_sA, aI_sM, aL_sI, aL_sL, aL_sA, aL_sM]
            refine hB _ _ _ _ _ (fun m622 hm622 => ?_)
            dsimp only [ugo, uwp, ust, uct, rfd, BflowStep, BflowStep_1420, Nat.beq, lv_args, rlk, rs1, rs2, rdl, rky, rcd, rno, rsw, Value.category, List.filter, List.take, List.drop, List.reverse, List.reverseAux, List.cons_append, List.nil_append, Option.toList, Int.toNat, Int.reduceToNat, if_pos, if_neg, reduceIte, ↓reduceIte, Nat.reduceAdd, Nat.reduceEqDiff, Nat.reduceBEq, beq_self_eq_true, Bool.not_true, Bool.not_false, Bool.and_true, Bool.and_false, Bool.true_and, Bool.false_and, gI_sI, gI_sL, gI_sA, gI_sM, gL_sI, gL_sL, gL_sA, gL_sM, aI_sI, aI_sL, aI_sA, aI_sM, aL_sI, aL_sL, aL_sA, aL_sM, oi_1]; try dsimp only
            unfold Qv_flowStep
            try dsimp only
            have es : fsS σ c = ((beS (sI σ 92 1) ((nowR (sI σ 92 1)) &&& ((aL σ 96) (((aI σ 20) (c).toNatClampNeg)).toNatClampNeg))), (c + 1)) := (fs_e53 (by show (aI σ 19 c.toNatClampNeg).toInt = 53; omega)).trans (by unfold fs_53; rw [if_pos (show ((aI σ 58) (((aI σ 20) (c).toNatClampNeg)).toNatClampNeg) < 0 from h614), if_neg (show ¬ ((gI σ 92) = 0) from h616)])
            refine ⟨(gI σ 112), (gI σ 113), ⟨Or.inl, fun q => q.elim id (fun z => absurd z (fun z => z.elim (fun y => by omega) (fun y => by omega)))⟩, ?_, ?_⟩
            · rw [la_id]
              exact (congrArg Prod.fst es).symm
            · rw [la_id]
              exact congrArg (fun z => some (Value.int z)) (congrArg Prod.snd es).symm
          · refine hB _ _ _ _ _ (fun m623 hm623 => ?_)
            dsimp only [ugo, uwp, ust, uct, rfd, BflowStep, BflowStep_1359, Nat.beq, lv_args, rlk, rs1, rs2, rdl, rky, rcd, rno, rsw, Value.category, List.filter, List.take, List.drop, List.reverse, List.reverseAux, List.cons_append, List.nil_append, Option.toList, Int.toNat, Int.reduceToNat, if_pos, if_neg, reduceIte, ↓reduceIte, Nat.reduceAdd, Nat.reduceEqDiff, Nat.reduceBEq, beq_self_eq_true, Bool.not_true, Bool.not_false, Bool.and_true, Bool.and_false, Bool.true_and, Bool.false_and, gI_sI, gI_sL, gI_sA, gI_sM, gL_sI, gL_sL, gL_sA, gL_sM, aI_sI, aI_sL, aI_sA, aI_sM, aL_sI, aL_sL, aL_sA, aL_sM]; try dsimp only
            intro p624
            refine ⟨fun h625 => ?_, fun h625 => ?_⟩
            · refine hB _ _ _ _ _ (fun m626 hm626 => ?_)
              dsimp only [ugo, uwp, ust, uct, rfd, BflowStep, BflowStep_1372, Nat.beq, lv_args, rlk, rs1, rs2, rdl, rky, rcd, rno, rsw, Value.category, List.filter, List.take, List.drop, List.reverse, List.reverseAux, List.cons_append, List.nil_append, Option.toList, Int.toNat, Int.reduceToNat, if_pos, if_neg, reduceIte, ↓reduceIte, Nat.reduceAdd, Nat.reduceEqDiff, Nat.reduceBEq, beq_self_eq_true, Bool.not_true, Bool.not_false, Bool.and_true, Bool.and_false, Bool.true_and, Bool.false_and, gI_sI, gI_sL, gI_sA, gI_sM, gL_sI, gL_sL, gL_sA, gL_sM, aI_sI, aI_sL, aI_sA, aI_sM, aL_sI, aL_sL, aL_sA, aL_sM, oi_0]; try dsimp only
              refine hB _ _ _ _ _ (fun m627 hm627 => ?_)
              dsimp only [ugo, uwp, ust, uct, rfd, BflowStep, BflowStep_1373, Nat.beq, lv_args, rlk, rs1, rs2, rdl, rky, rcd, rno, rsw, Value.category, List.filter, List.take, List.drop, List.reverse, List.reverseAux, List.cons_append, List.nil_append, Option.toList, Int.toNat, Int.reduceToNat, if_pos, if_neg, reduceIte, ↓reduceIte, Nat.reduceAdd, Nat.reduceEqDiff, Nat.reduceBEq, beq_self_eq_true, Bool.not_true, Bool.not_false, Bool.and_true, Bool.and_false, Bool.true_and, Bool.false_and, gI_sI, gI_sL, gI_sA, gI_sM, gL_sI, gL_sL, gL_sA, gL_sM, aI_sI, aI_sL, aI_sA, aI_sM, aL_sI, aL_sL, aL_sA, aL_sM]; try dsimp only
              refine ⟨trivial, fun w628 τ628 hq628 => ?_⟩
              obtain ⟨rfl, rfl⟩ := hq628 trivial
              dsimp only [Option.toList, List.cons_append, List.nil_append, Nat.beq, gI_sI, gI_sL, gI_sA, gI_sM, gL_sI, gL_sL, gL_sA, gL_sM, aI_sI, aI_sL, aI_sA, aI_sM, aL_sI, aL_sL, aL_sA, aL_sM]
              intro p629
              refine ⟨trivial, fun w630 τ630 hq630 => ?_⟩
              obtain ⟨rfl, rfl⟩ := hq630 trivial
              dsimp only [Option.toList, List.cons_append, List.nil_append, Nat.beq, gI_sI, gI_sL, gI_sA, gI_sM, gL_sI, gL_sL, gL_sA, gL_sM, aI_sI, aI_sL, aI_sA, aI_sM, aL_sI, aL_sL, aL_sA, aL_sM]
              refine hB _ _ _ _ _ (fun m631 hm631 => ?_)
              dsimp only [ugo, uwp, ust, uct, rfd, BflowStep, BflowStep_1420, Nat.beq, lv_args, rlk, rs1, rs2, rdl, rky, rcd, rno, rsw, Value.category, List.filter, List.take, List.drop, List.reverse, List.reverseAux, List.cons_append, List.nil_append, Option.toList, Int.toNat, Int.reduceToNat, if_pos, if_neg, reduceIte, ↓reduceIte, Nat.reduceAdd, Nat.reduceEqDiff, Nat.reduceBEq, beq_self_eq_true, Bool.not_true, Bool.not_false, Bool.and_true, Bool.and_false, Bool.true_and, Bool.false_and, gI_sI, gI_sL, gI_sA, gI_sM, gL_sI, gL_sL, gL_sA, gL_sM, aI_sI, aI_sL, aI_sA, aI_sM, aL_sI, aL_sL, aL_sA, aL_sM, oi_1]; try dsimp only
              unfold Qv_flowStep
              try dsimp only
              have es : fsS σ c = ((beS (sI σ 92 0) ((nowR (sI σ 92 0)) &&& ((aL σ 96) (((aI σ 20) (c).toNatClampNeg)).toNatClampNeg))), (c + 1)) := (fs_e53 (by show (aI σ 19 c.toNatClampNeg).toInt = 53; omega)).trans (by unfold fs_53; rw [if_pos (show ((aI σ 58) (((aI σ 20) (c).toNatClampNeg)).toNatClampNeg) < 0 from h614), if_pos (show (gI σ 92) = 0 from h616), if_pos (show ((aI σ 95) (((aI σ 20) (c).toNatClampNeg)).toNatClampNeg) = 0 from h625)])
              refine ⟨(gI σ 112), (gI σ 113), ⟨Or.inl, fun q => q.elim id (fun z => absurd z (fun z => z.elim (fun y => by omega) (fun y => by omega)))⟩, ?_, ?_⟩
              · rw [la_id]
                exact (congrArg Prod.fst es).symm
              · rw [la_id]
                exact congrArg (fun z => some (Value.int z)) (congrArg Prod.snd es).symm
            · refine hB _ _ _ _ _ (fun m632 hm632 => ?_)
              dsimp only [ugo, uwp, ust, uct, rfd, BflowStep, BflowStep_1368, Nat.beq, lv_args, rlk, rs1, rs2, rdl, rky, rcd, rno, rsw, Value.category, List.filter, List.take, List.drop, List.reverse, List.reverseAux, List.cons_append, List.nil_append, Option.toList, Int.toNat, Int.reduceToNat, if_pos, if_neg, reduceIte, ↓reduceIte, Nat.reduceAdd, Nat.reduceEqDiff, Nat.reduceBEq, beq_self_eq_true, Bool.not_true, Bool.not_false, Bool.and_true, Bool.and_false, Bool.true_and, Bool.false_and, gI_sI, gI_sL, gI_sA, gI_sM, gL_sI, gL_sL, gL_sA, gL_sM, aI_sI, aI_sL, aI_sA, aI_sM, aL_sI, aL_sL, aL_sA, aL_sM, oi_1]; try dsimp only
              refine hB _ _ _ _ _ (fun m633 hm633 => ?_)
              dsimp only [ugo, uwp, ust, uct, rfd, BflowStep, BflowStep_1373, Nat.beq, lv_args, rlk, rs1, rs2, rdl, rky, rcd, rno, rsw, Value.category, List.filter, List.take, List.drop, List.reverse, List.reverseAux, List.cons_append, List.nil_append, Option.toList, Int.toNat, Int.reduceToNat, if_pos, if_neg, reduceIte, ↓reduceIte, Nat.reduceAdd, Nat.reduceEqDiff, Nat.reduceBEq, beq_self_eq_true, Bool.not_true, Bool.not_false, Bool.and_true, Bool.and_false, Bool.true_and, Bool.false_and, gI_sI, gI_sL, gI_sA, gI_sM, gL_sI, gL_sL, gL_sA, gL_sM, aI_sI, aI_sL, aI_sA, aI_sM, aL_sI, aL_sL, aL_sA, aL_sM]; try dsimp only
              refine ⟨trivial, fun w634 τ634 hq634 => ?_⟩
              obtain ⟨rfl, rfl⟩ := hq634 trivial
              dsimp only [Option.toList, List.cons_append, List.nil_append, Nat.beq, gI_sI, gI_sL, gI_sA, gI_sM, gL_sI, gL_sL, gL_sA, gL_sM, aI_sI, aI_sL, aI_sA, aI_sM, aL_sI, aL_sL, aL_sA, aL_sM]
              intro p635
              refine ⟨trivial, fun w636 τ636 hq636 => ?_⟩
              obtain ⟨rfl, rfl⟩ := hq636 trivial
              dsimp only [Option.toList, List.cons_append, List.nil_append, Nat.beq, gI_sI, gI_sL, gI_sA, gI_sM, gL_sI, gL_sL, gL_sA, gL_sM, aI_sI, aI_sL, aI_sA, aI_sM, aL_sI, aL_sL, aL_sA, aL_sM]
              refine hB _ _ _ _ _ (fun m637 hm637 => ?_)
              dsimp only [ugo, uwp, ust, uct, rfd, BflowStep, BflowStep_1420, Nat.beq, lv_args, rlk, rs1, rs2, rdl, rky, rcd, rno, rsw, Value.category, List.filter, List.take, List.drop, List.reverse, List.reverseAux, List.cons_append, List.nil_append, Option.toList, Int.toNat, Int.reduceToNat, if_pos, if_neg, reduceIte, ↓reduceIte, Nat.reduceAdd, Nat.reduceEqDiff, Nat.reduceBEq, beq_self_eq_true, Bool.not_true, Bool.not_false, Bool.and_true, Bool.and_false, Bool.true_and, Bool.false_and, gI_sI, gI_sL, gI_sA, gI_sM, gL_sI, gL_sL, gL_sA, gL_sM, aI_sI, aI_sL, aI_sA, aI_sM, aL_sI, aL_sL, aL_sA, aL_sM, oi_1]; try dsimp only
              unfold Qv_flowStep
              try dsimp only
              have es : fsS σ c = ((beS (sI σ 92 1) ((nowR (sI σ 92 1)) &&& ((aL σ 96) (((aI σ 20) (c).toNatClampNeg)).toNatClampNeg))), (c + 1)) := (fs_e53 (by show (aI σ 19 c.toNatClampNeg).toInt = 53; omega)).trans (by unfold fs_53; rw [if_pos (show ((aI σ 58) (((aI σ 20) (c).toNatClampNeg)).toNatClampNeg) < 0 from h614), if_pos (show (gI σ 92) = 0 from h616), if_neg (show ¬ (((aI σ 95) (((aI σ 20) (c).toNatClampNeg)).toNatClampNeg) = 0) from h625)])
              refine ⟨(gI σ 112), (gI σ 113), ⟨Or.inl, fun q => q.elim id (fun z => absurd z (fun z => z.elim (fun y => by omega) (fun y => by omega)))⟩, ?_, ?_⟩
              · rw [la_id]
                exact (congrArg Prod.fst es).symm
              · rw [la_id]
                exact congrArg (fun z => some (Value.int z)) (congrArg Prod.snd es).symm
        · refine hB _ _ _ _ _ (fun m638 hm638 => ?_)
          dsimp only [ugo, uwp, ust, uct, rfd, BflowStep, BflowStep_1303, Nat.beq, lv_args, rlk, rs1, rs2, rdl, rky, rcd, rno, rsw, Value.category, List.filter, List.take, List.drop, List.reverse, List.reverseAux, List.cons_append, List.nil_append, Option.toList, Int.toNat, Int.reduceToNat, if_pos, if_neg, reduceIte, ↓reduceIte, Nat.reduceAdd, Nat.reduceEqDiff, Nat.reduceBEq, beq_self_eq_true, Bool.not_true, Bool.not_false, Bool.and_true, Bool.and_false, Bool.true_and, Bool.false_and, gI_sI, gI_sL, gI_sA, gI_sM, gL_sI, gL_sL, gL_sA, gL_sM, aI_sI, aI_sL, aI_sA, aI_sM, aL_sI, aL_sL, aL_sA, aL_sM]; try dsimp only
          refine ⟨trivial, fun w639 τ639 hq639 => ?_⟩
          obtain ⟨rfl, rfl⟩ := hq639 trivial
          dsimp only [Option.toList, List.cons_append, List.nil_append, Nat.beq, gI_sI, gI_sL, gI_sA, gI_sM, gL_sI, gL_sL, gL_sA, gL_sM, aI_sI, aI_sL, aI_sA, aI_sM, aL_sI, aL_sL, aL_sA, aL_sM]
          refine ⟨fun h640 => ?_, fun h640 => ?_⟩
          · refine hB _ _ _ _ _ (fun m641 hm641 => ?_)
            dsimp only [ugo, uwp, ust, uct, rfd, BflowStep, BflowStep_1329, Nat.beq, lv_args, rlk, rs1, rs2, rdl, rky, rcd, rno, rsw, Value.category, List.filter, List.take, List.drop, List.reverse, List.reverseAux, List.cons_append, List.nil_append, Option.toList, Int.toNat, Int.reduceToNat, if_pos, if_neg, reduceIte, ↓reduceIte, Nat.reduceAdd, Nat.reduceEqDiff, Nat.reduceBEq, beq_self_eq_true, Bool.not_true, Bool.not_false, Bool.and_true, Bool.and_false, Bool.true_and, Bool.false_and, gI_sI, gI_sL, gI_sA, gI_sM, gL_sI, gL_sL, gL_sA, gL_sM, aI_sI, aI_sL, aI_sA, aI_sM, aL_sI, aL_sL, aL_sA, aL_sM, oi_0]; try dsimp only
            refine hB _ _ _ _ _ (fun m642 hm642 => ?_)
            dsimp only [ugo, uwp, ust, uct, rfd, BflowStep, BflowStep_1330, Nat.beq, lv_args, rlk, rs1, rs2, rdl, rky, rcd, rno, rsw, Value.category, List.filter, List.take, List.drop, List.reverse, List.reverseAux, List.cons_append, List.nil_append, Option.toList, Int.toNat, Int.reduceToNat, if_pos, if_neg, reduceIte, ↓reduceIte, Nat.reduceAdd, Nat.reduceEqDiff, Nat.reduceBEq, beq_self_eq_true, Bool.not_true, Bool.not_false, Bool.and_true, Bool.and_false, Bool.true_and, Bool.false_and, gI_sI, gI_sL, gI_sA, gI_sM, gL_sI, gL_sL, gL_sA, gL_sM, aI_sI, aI_sL, aI_sA, aI_sM, aL_sI, aL_sL, aL_sA, aL_sM]; try dsimp only
            refine ⟨trivial, fun w643 τ643 hq643 => ?_⟩
            obtain ⟨rfl, rfl⟩ := hq643 trivial
            dsimp only [Option.toList, List.cons_append, List.nil_append, Nat.beq, gI_sI, gI_sL, gI_sA, gI_sM, gL_sI, gL_sL, gL_sA, gL_sM, aI_sI, aI_sL, aI_sA, aI_sM, aL_sI, aL_sL, aL_sA, aL_sM]
            intro p644
            refine ⟨trivial, fun w645 τ645 hq645 => ?_⟩
            obtain ⟨rfl, rfl⟩ := hq645 trivial
            dsimp only [Option.toList, List.cons_append, List.nil_append, Nat.beq, gI_sI, gI_sL, gI_sA, gI_sM, gL_sI, gL_sL, gL_sA, gL_sM, aI_sI, aI_sL, aI_sA, aI_sM, aL_sI, aL_sL, aL_sA, aL_sM]
            refine hB _ _ _ _ _ (fun m646 hm646 => ?_)
            dsimp only [ugo, uwp, ust, uct, rfd, BflowStep, BflowStep_1420, Nat.beq, lv_args, rlk, rs1, rs2, rdl, rky, rcd, rno, rsw, Value.category, List.filter, List.take, List.drop, List.reverse, List.reverseAux, List.cons_append, List.nil_append, Option.toList, Int.toNat, Int.reduceToNat, if_pos, if_neg, reduceIte, ↓reduceIte, Nat.reduceAdd, Nat.reduceEqDiff, Nat.reduceBEq, beq_self_eq_true, Bool.not_true, Bool.not_false, Bool.and_true, Bool.and_false, Bool.true_and, Bool.false_and, gI_sI, gI_sL, gI_sA, gI_sM, gL_sI, gL_sL, gL_sA, gL_sM, aI_sI, aI_sL, aI_sA, aI_sM, aL_sI, aL_sL, aL_sA, aL_sM, oi_1]; try dsimp only
            unfold Qv_flowStep
            try dsimp only
            have es : fsS σ c = ((beS (sI (enS σ ((aI σ 20) (c).toNatClampNeg) (gI σ 103).toInt.toNat) 92 0) ((nowR (sI (enS σ ((aI σ 20) (c).toNatClampNeg) (gI σ 103).toInt.toNat) 92 0)) ||| ((aL (enS σ ((aI σ 20) (c).toNatClampNeg) (gI σ 103).toInt.toNat) 96) (((aI σ 20) (c).toNatClampNeg)).toNatClampNeg))), (c + 1)) := (fs_e53 (by show (aI σ 19 c.toNatClampNeg).toInt = 53; omega)).trans (by unfold fs_53; rw [if_neg (show ¬ (((aI σ 58) (((aI σ 20) (c).toNatClampNeg)).toNatClampNeg) < 0) from h614), if_pos (show (gI (enS σ ((aI σ 20) (c).toNatClampNeg) (gI σ 103).toInt.toNat) 92) = 0 from h640)])
            refine ⟨(gI σ 112), (gI σ 113), ⟨Or.inl, fun q => q.elim id (fun z => absurd z (fun z => z.elim (fun y => by omega) (fun y => by omega)))⟩, ?_, ?_⟩
            · rw [la_id]
              exact (congrArg Prod.fst es).symm
            · rw [la_id]
              exact congrArg (fun z => some (Value.int z)) (congrArg Prod.snd es).symm
          · refine hB _ _ _ _ _ (fun m647 hm647 => ?_)
            dsimp only [ugo, uwp, ust, uct, rfd, BflowStep, BflowStep_1316, Nat.beq, lv_args, rlk, rs1, rs2, rdl, rky, rcd, rno, rsw, Value.category, List.filter, List.take, List.drop, List.reverse, List.reverseAux, List.cons_append, List.nil_append, Option.toList, Int.toNat, Int.reduceToNat, if_pos, if_neg, reduceIte, ↓reduceIte, Nat.reduceAdd, Nat.reduceEqDiff, Nat.reduceBEq, beq_self_eq_true, Bool.not_true, Bool.not_false, Bool.and_true, Bool.and_false, Bool.true_and, Bool.false_and, gI_sI, gI_sL, gI_sA, gI_sM, gL_sI, gL_sL, gL_sA, gL_sM, aI_sI, aI_sL, aI_sA, aI_sM, aL_sI, aL_sL, aL_sA, aL_sM]; try dsimp only
            intro p648
            refine ⟨fun h649 => ?_, fun h649 => ?_⟩
            · refine hB _ _ _ _ _ (fun m650 hm650 => ?_)
              dsimp only [ugo, uwp, ust, uct, rfd, BflowStep, BflowStep_1329, Nat.beq, lv_args, rlk, rs1, rs2, rdl, rky, rcd, rno, rsw, Value.category, List.filter, List.take, List.drop, List.reverse, List.reverseAux, List.cons_append, List.nil_append, Option.toList, Int.toNat, Int.reduceToNat, if_pos, if_neg, reduceIte, ↓reduceIte, Nat.reduceAdd, Nat.reduceEqDiff, Nat.reduceBEq, beq_self_eq_true, Bool.not_true, Bool.not_false, Bool.and_true, Bool.and_false, Bool.true_and, Bool.false_and, gI_sI, gI_sL, gI_sA, gI_sM, gL_sI, gL_sL, gL_sA, gL_sM, aI_sI, aI_sL, aI_sA, aI_sM, aL_sI, aL_sL, aL_sA, aL_sM, oi_0]; try dsimp only
              refine hB _ _ _ _ _ (fun m651 hm651 => ?_)
              dsimp only [ugo, uwp, ust, uct, rfd, BflowStep, BflowStep_1330, Nat.beq, lv_args, rlk, rs1, rs2, rdl, rky, rcd, rno, rsw, Value.category, List.filter, List.take, List.drop, List.reverse, List.reverseAux, List.cons_append, List.nil_append, Option.toList, Int.toNat, Int.reduceToNat, if_pos, if_neg, reduceIte, ↓reduceIte, Nat.reduceAdd, Nat.reduceEqDiff, Nat.reduceBEq, beq_self_eq_true, Bool.not_true, Bool.not_false, Bool.and_true, Bool.and_false, Bool.true_and, Bool.false_and, gI_sI, gI_sL, gI_sA, gI_sM, gL_sI, gL_sL, gL_sA, gL_sM, aI_sI, aI_sL, aI_sA, aI_sM, aL_sI, aL_sL, aL_sA, aL_sM]; try dsimp only
              refine ⟨trivial, fun w652 τ652 hq652 => ?_⟩
              obtain ⟨rfl, rfl⟩ := hq652 trivial
              dsimp only [Option.toList, List.cons_append, List.nil_append, Nat.beq, gI_sI, gI_sL, gI_sA, gI_sM, gL_sI, gL_sL, gL_sA, gL_sM, aI_sI, aI_sL, aI_sA, aI_sM, aL_sI, aL_sL, aL_sA, aL_sM]
              intro p653
              refine ⟨trivial, fun w654 τ654 hq654 => ?_⟩
              obtain ⟨rfl, rfl⟩ := hq654 trivial
              dsimp only [Option.toList, List.cons_append, List.nil_append, Nat.beq, gI_sI, gI_sL, gI_sA, gI_sM, gL_sI, gL_sL, gL_sA, gL_sM, aI_sI, aI_sL, aI_sA, aI_sM, aL_sI, aL_sL, aL_sA, aL_sM]
              refine hB _ _ _ _ _ (fun m655 hm655 => ?_)
              dsimp only [ugo, uwp, ust, uct, rfd, BflowStep, BflowStep_1420, Nat.beq, lv_args, rlk, rs1, rs2, rdl, rky, rcd, rno, rsw, Value.category, List.filter, List.take, List.drop, List.reverse, List.reverseAux, List.cons_append, List.nil_append, Option.toList, Int.toNat, Int.reduceToNat, if_pos, if_neg, reduceIte, ↓reduceIte, Nat.reduceAdd, Nat.reduceEqDiff, Nat.reduceBEq, beq_self_eq_true, Bool.not_true, Bool.not_false, Bool.and_true, Bool.and_false, Bool.true_and, Bool.false_and, gI_sI, gI_sL, gI_sA, gI_sM, gL_sI, gL_sL, gL_sA, gL_sM, aI_sI, aI_sL, aI_sA, aI_sM, aL_sI, aL_sL, aL_sA, aL_sM, oi_1]; try dsimp only
              unfold Qv_flowStep
              try dsimp only
              have es : fsS σ c = ((beS (sI (enS σ ((aI σ 20) (c).toNatClampNeg) (gI σ 103).toInt.toNat) 92 0) ((nowR (sI (enS σ ((aI σ 20) (c).toNatClampNeg) (gI σ 103).toInt.toNat) 92 0)) ||| ((aL (enS σ ((aI σ 20) (c).toNatClampNeg) (gI σ 103).toInt.toNat) 96) (((aI σ 20) (c).toNatClampNeg)).toNatClampNeg))), (c + 1)) := (fs_e53 (by show (aI σ 19 c.toNatClampNeg).toInt = 53; omega)).trans (by unfold fs_53; rw [if_neg (show ¬ (((aI σ 58) (((aI σ 20) (c).toNatClampNeg)).toNatClampNeg) < 0) from h614), if_neg (show ¬ ((gI (enS σ ((aI σ 20) (c).toNatClampNeg) (gI σ 103).toInt.toNat) 92) = 0) from h640), if_pos (show ((aI (enS σ ((aI σ 20) (c).toNatClampNeg) (gI σ 103).toInt.toNat) 95) (((aI σ 20) (c).toNatClampNeg)).toNatClampNeg) = 0 from h649)])
              refine ⟨(gI σ 112), (gI σ 113), ⟨Or.inl, fun q => q.elim id (fun z => absurd z (fun z => z.elim (fun y => by omega) (fun y => by omega)))⟩, ?_, ?_⟩
              · rw [la_id]
                exact (congrArg Prod.fst es).symm
              · rw [la_id]
                exact congrArg (fun z => some (Value.int z)) (congrArg Prod.snd es).symm
            · refine hB _ _ _ _ _ (fun m656 hm656 => ?_)
              dsimp only [ugo, uwp, ust, uct, rfd, BflowStep, BflowStep_1325, Nat.beq, lv_args, rlk, rs1, rs2, rdl, rky, rcd, rno, rsw, Value.category, List.filter, List.take, List.drop, List.reverse, List.reverseAux, List.cons_append, List.nil_append, Option.toList, Int.toNat, Int.reduceToNat, if_pos, if_neg, reduceIte, ↓reduceIte, Nat.reduceAdd, Nat.reduceEqDiff, Nat.reduceBEq, beq_self_eq_true, Bool.not_true, Bool.not_false, Bool.and_true, Bool.and_false, Bool.true_and, Bool.false_and, gI_sI, gI_sL, gI_sA, gI_sM, gL_sI, gL_sL, gL_sA, gL_sM, aI_sI, aI_sL, aI_sA, aI_sM, aL_sI, aL_sL, aL_sA, aL_sM, oi_1]; try dsimp only
              refine hB _ _ _ _ _ (fun m657 hm657 => ?_)
              dsimp only [ugo, uwp, ust, uct, rfd, BflowStep, BflowStep_1330, Nat.beq, lv_args, rlk, rs1, rs2, rdl, rky, rcd, rno, rsw, Value.category, List.filter, List.take, List.drop, List.reverse, List.reverseAux, List.cons_append, List.nil_append, Option.toList, Int.toNat, Int.reduceToNat, if_pos, if_neg, reduceIte, ↓reduceIte, Nat.reduceAdd, Nat.reduceEqDiff, Nat.reduceBEq, beq_self_eq_true, Bool.not_true, Bool.not_false, Bool.and_true, Bool.and_false, Bool.true_and, Bool.false_and, gI_sI, gI_sL, gI_sA, gI_sM, gL_sI, gL_sL, gL_sA, gL_sM, aI_sI, aI_sL, aI_sA, aI_sM, aL_sI, aL_sL, aL_sA, aL_sM]; try dsimp only
              refine ⟨trivial, fun w658 τ658 hq658 => ?_⟩
              obtain ⟨rfl, rfl⟩ := hq658 trivial
              dsimp only [Option.toList, List.cons_append, List.nil_append, Nat.beq, gI_sI, gI_sL, gI_sA, gI_sM, gL_sI, gL_sL, gL_sA, gL_sM, aI_sI, aI_sL, aI_sA, aI_sM, aL_sI, aL_sL, aL_sA, aL_sM]
              intro p659
              refine ⟨trivial, fun w660 τ660 hq660 => ?_⟩
              obtain ⟨rfl, rfl⟩ := hq660 trivial
              dsimp only [Option.toList, List.cons_append, List.nil_append, Nat.beq, gI_sI, gI_sL, gI_sA, gI_sM, gL_sI, gL_sL, gL_sA, gL_sM, aI_sI, aI_sL, aI_sA, aI_sM, aL_sI, aL_sL, aL_sA, aL_sM]
              refine hB _ _ _ _ _ (fun m661 hm661 => ?_)
              dsimp only [ugo, uwp, ust, uct, rfd, BflowStep, BflowStep_1420, Nat.beq, lv_args, rlk, rs1, rs2, rdl, rky, rcd, rno, rsw, Value.category, List.filter, List.take, List.drop, List.reverse, List.reverseAux, List.cons_append, List.nil_append, Option.toList, Int.toNat, Int.reduceToNat, if_pos, if_neg, reduceIte, ↓reduceIte, Nat.reduceAdd, Nat.reduceEqDiff, Nat.reduceBEq, beq_self_eq_true, Bool.not_true, Bool.not_false, Bool.and_true, Bool.and_false, Bool.true_and, Bool.false_and, gI_sI, gI_sL, gI_sA, gI_sM, gL_sI, gL_sL, gL_sA, gL_sM, aI_sI, aI_sL, aI_sA, aI_sM, aL_sI, aL_sL, aL_sA, aL_sM, oi_1]; try dsimp only
              unfold Qv_flowStep
              try dsimp only
              have es : fsS σ c = ((beS (sI (enS σ ((aI σ 20) (c).toNatClampNeg) (gI σ 103).toInt.toNat) 92 1) ((nowR (sI (enS σ ((aI σ 20) (c).toNatClampNeg) (gI σ 103).toInt.toNat) 92 1)) ||| ((aL (enS σ ((aI σ 20) (c).toNatClampNeg) (gI σ 103).toInt.toNat) 96) (((aI σ 20) (c).toNatClampNeg)).toNatClampNeg))), (c + 1)) := (fs_e53 (by show (aI σ 19 c.toNatClampNeg).toInt = 53; omega)).trans (by unfold fs_53; rw [if_neg (show ¬ (((aI σ 58) (((aI σ 20) (c).toNatClampNeg)).toNatClampNeg) < 0) from h614), if_neg (show ¬ ((gI (enS σ ((aI σ 20) (c).toNatClampNeg) (gI σ 103).toInt.toNat) 92) = 0) from h640), if_neg (show ¬ (((aI (enS σ ((aI σ 20) (c).toNatClampNeg) (gI σ 103).toInt.toNat) 95) (((aI σ 20) (c).toNatClampNeg)).toNatClampNeg) = 0) from h649)])
              refine ⟨(gI σ 112), (gI σ 113), ⟨Or.inl, fun q => q.elim id (fun z => absurd z (fun z => z.elim (fun y => by omega) (fun y => by omega)))⟩, ?_, ?_⟩
              · rw [la_id]
                exact (congrArg Prod.fst es).symm
              · rw [la_id]
                exact congrArg (fun z => some (Value.int z)) (congrArg Prod.snd es).symm
      have c611 : ¬ (aI σ 19 c.toNatClampNeg).toInt = 53 := fun q => h611 ((rfl : (aI σ 19 c.toNatClampNeg).toInt = (aI σ 19 c.toNatClampNeg).toInt).trans q)
      refine ⟨fun h662 => ?_, fun h662 => ?_⟩
      · have c662 : (aI σ 19 c.toNatClampNeg).toInt = 54 := (rfl : (aI σ 19 c.toNatClampNeg).toInt = (aI σ 19 c.toNatClampNeg).toInt).symm.trans h662
        refine hB _ _ _ _ _ (fun m663 hm663 => ?_)
        dsimp only [ugo, uwp, ust, uct, rfd, BflowStep, BflowStep_1394, Nat.beq, lv_args, rlk, rs1, rs2, rdl, rky, rcd, rno, rsw, Value.category, List.filter, List.take, List.drop, List.reverse, List.reverseAux, List.cons_append, List.nil_append, Option.toList, Int.toNat, Int.reduceToNat, if_pos, if_neg, reduceIte, ↓reduceIte, Nat.reduceAdd, Nat.reduceEqDiff, Nat.reduceBEq, beq_self_eq_true, Bool.not_true, Bool.not_false, Bool.and_true, Bool.and_false, Bool.true_and, Bool.false_and, gI_sI, gI_sL, gI_sA, gI_sM, gL_sI, gL_sL, gL_sA, gL_sM, aI_sI, aI_sL, aI_sA, aI_sM, aL_sI, aL_sL, aL_sA, aL_sM]; try dsimp only
        refine ⟨fun h664 => ?_, fun h664 => ?_⟩
        · refine hB _ _ _ _ _ (fun m665 hm665 => ?_)
          dsimp only [ugo, uwp, ust, uct, rfd, BflowStep, BflowStep_1420, Nat.beq, lv_args, rlk, rs1, rs2, rdl, rky, rcd, rno, rsw, Value.category, List.filter, List.take, List.drop, List.reverse, List.reverseAux, List.cons_append, List.nil_append, Option.toList, Int.toNat, Int.reduceToNat, if_pos, if_neg, reduceIte, ↓reduceIte, Nat.reduceAdd, Nat.reduceEqDiff, Nat.reduceBEq, beq_self_eq_true, Bool.not_true, Bool.not_false, Bool.and_true, Bool.and_false, Bool.true_and, Bool.false_and, gI_sI, gI_sL, gI_sA, gI_sM, gL_sI, gL_sL, gL_sA, gL_sM, aI_sI, aI_sL, aI_sA, aI_sM, aL_sI, aL_sL, aL_sA, aL_sM, oi_1]; try dsimp only
          unfold Qv_flowStep
          try dsimp only
          have es : fsS σ c = (σ, (c + 1)) := fs_d (by show ¬ ((20 ≤ (aI σ 19 c.toNatClampNeg).toInt ∧ (aI σ 19 c.toNatClampNeg).toInt ≤ 25) ∨ (aI σ 19 c.toNatClampNeg).toInt = 27 ∨ (aI σ 19 c.toNatClampNeg).toInt = 28 ∨ (aI σ 19 c.toNatClampNeg).toInt = 30 ∨ (aI σ 19 c.toNatClampNeg).toInt = 31 ∨ (aI σ 19 c.toNatClampNeg).toInt = 33 ∨ (aI σ 19 c.toNatClampNeg).toInt = 35 ∨ (aI σ 19 c.toNatClampNeg).toInt = 36 ∨ (aI σ 19 c.toNatClampNeg).toInt = 37 ∨ (aI σ 19 c.toNatClampNeg).toInt = 38 ∨ (aI σ 19 c.toNatClampNeg).toInt = 39 ∨ (aI σ 19 c.toNatClampNeg).toInt = 40 ∨ (aI σ 19 c.toNatClampNeg).toInt = 42 ∨ (aI σ 19 c.toNatClampNeg).toInt = 45 ∨ (aI σ 19 c.toNatClampNeg).toInt = 46 ∨ (aI σ 19 c.toNatClampNeg).toInt = 47 ∨ (aI σ 19 c.toNatClampNeg).toInt = 48 ∨ (aI σ 19 c.toNatClampNeg).toInt = 49 ∨ (aI σ 19 c.toNatClampNeg).toInt = 50 ∨ (aI σ 19 c.toNatClampNeg).toInt = 51 ∨ (aI σ 19 c.toNatClampNeg).toInt = 52 ∨ (aI σ 19 c.toNatClampNeg).toInt = 53); omega)
          refine ⟨(gI σ 112), (gI σ 113), ⟨Or.inl, fun q => q.elim id (fun z => absurd z (fun z => z.elim (fun y => by omega) (fun y => by obtain ⟨_, y1, y2⟩ := y; contradiction)))⟩, ?_, ?_⟩
          · rw [la_id]
            exact (congrArg Prod.fst es).symm
          · rw [la_id]
            exact congrArg (fun z => some (Value.int z)) (congrArg Prod.snd es).symm
        · refine hB _ _ _ _ _ (fun m666 hm666 => ?_)
          dsimp only [ugo, uwp, ust, uct, rfd, BflowStep, BflowStep_1401, Nat.beq, lv_args, rlk, rs1, rs2, rdl, rky, rcd, rno, rsw, Value.category, List.filter, List.take, List.drop, List.reverse, List.reverseAux, List.cons_append, List.nil_append, Option.toList, Int.toNat, Int.reduceToNat, if_pos, if_neg, reduceIte, ↓reduceIte, Nat.reduceAdd, Nat.reduceEqDiff, Nat.reduceBEq, beq_self_eq_true, Bool.not_true, Bool.not_false, Bool.and_true, Bool.and_false, Bool.true_and, Bool.false_and, gI_sI, gI_sL, gI_sA, gI_sM, gL_sI, gL_sL, gL_sA, gL_sM, aI_sI, aI_sL, aI_sA, aI_sM, aL_sI, aL_sL, aL_sA, aL_sM, oi_5]; try dsimp only
          refine ⟨trivial, fun w667 τ667 hq667 => ?_⟩
          obtain ⟨rfl, _, rfl, rfl⟩ := hq667 trivial
          dsimp only [Option.toList, List.cons_append, List.nil_append, Nat.beq, gI_sI, gI_sL, gI_sA, gI_sM, gL_sI, gL_sL, gL_sA, gL_sM, aI_sI, aI_sL, aI_sA, aI_sM, aL_sI, aL_sL, aL_sA, aL_sM]
          refine ⟨fun h668 => ?_, fun h668 => ?_⟩
          · refine hB _ _ _ _ _ (fun m669 hm669 => ?_)
            dsimp only [ugo, uwp, ust, uct, rfd, BflowStep, BflowStep_1420, Nat.beq, lv_args, rlk, rs1, rs2, rdl, rky, rcd, rno, rsw, Value.category, List.filter, List.take, List.drop, List.reverse, List.reverseAux, List.cons_append, List.nil_append, Option.toList, Int.toNat, Int.reduceToNat, if_pos, if_neg, reduceIte, ↓reduceIte, Nat.reduceAdd, Nat.reduceEqDiff, Nat.reduceBEq, beq_self_eq_true, Bool.not_true, Bool.not_false, Bool.and_true, Bool.and_false, Bool.true_and, Bool.false_and, gI_sI, gI_sL, gI_sA, gI_sM, gL_sI, gL_sL, gL_sA, gL_sM, aI_sI, aI_sL, aI_sA, aI_sM, aL_sI, aL_sL, aL_sA, aL_sM, oi_1]; try dsimp only
            unfold Qv_flowStep
            try dsimp only
            have es : fsS σ c = (σ, (c + 1)) := fs_d (by show ¬ ((20 ≤ (aI σ 19 c.toNatClampNeg).toInt ∧ (aI σ 19 c.toNatClampNeg).toInt ≤ 25) ∨ (aI σ 19 c.toNatClampNeg).toInt = 27 ∨ (aI σ 19 c.toNatClampNeg).toInt = 28 ∨ (aI σ 19 c.toNatClampNeg).toInt = 30 ∨ (aI σ 19 c.toNatClampNeg).toInt = 31 ∨ (aI σ 19 c.toNatClampNeg).toInt = 33 ∨ (aI σ 19 c.toNatClampNeg).toInt = 35 ∨ (aI σ 19 c.toNatClampNeg).toInt = 36 ∨ (aI σ 19 c.toNatClampNeg).toInt = 37 ∨ (aI σ 19 c.toNatClampNeg).toInt = 38 ∨ (aI σ 19 c.toNatClampNeg).toInt = 39 ∨ (aI σ 19 c.toNatClampNeg).toInt = 40 ∨ (aI σ 19 c.toNatClampNeg).toInt = 42 ∨ (aI σ 19 c.toNatClampNeg).toInt = 45 ∨ (aI σ 19 c.toNatClampNeg).toInt = 46 ∨ (aI σ 19 c.toNatClampNeg).toInt = 47 ∨ (aI σ 19 c.toNatClampNeg).toInt = 48 ∨ (aI σ 19 c.toNatClampNeg).toInt = 49 ∨ (aI σ 19 c.toNatClampNeg).toInt = 50 ∨ (aI σ 19 c.toNatClampNeg).toInt = 51 ∨ (aI σ 19 c.toNatClampNeg).toInt = 52 ∨ (aI σ 19 c.toNatClampNeg).toInt = 53); omega)
            refine ⟨(gI σ 112), (gI σ 113), ⟨Or.inl, fun q => q.elim id (fun z => absurd z (fun z => z.elim (fun y => by omega) (fun y => by obtain ⟨_, y1, y2⟩ := y; contradiction)))⟩, ?_, ?_⟩
            · rw [la_id]
              exact (congrArg Prod.fst es).symm
            · rw [la_id]
              exact congrArg (fun z => some (Value.int z)) (congrArg Prod.snd es).symm
          · refine hB _ _ _ _ _ (fun m670 hm670 => ?_)
            dsimp only [ugo, uwp, ust, uct, rfd, BflowStep, BflowStep_1410, Nat.beq, lv_args, rlk, rs1, rs2, rdl, rky, rcd, rno, rsw, Value.category, List.filter, List.take, List.drop, List.reverse, List.reverseAux, List.cons_append, List.nil_append, Option.toList, Int.toNat, Int.reduceToNat, if_pos, if_neg, reduceIte, ↓reduceIte, Nat.reduceAdd, Nat.reduceEqDiff, Nat.reduceBEq, beq_self_eq_true, Bool.not_true, Bool.not_false, Bool.and_true, Bool.and_false, Bool.true_and, Bool.false_and, gI_sI, gI_sL, gI_sA, gI_sM, gL_sI, gL_sL, gL_sA, gL_sM, aI_sI, aI_sL, aI_sA, aI_sM, aL_sI, aL_sL, aL_sA, aL_sM, oi_14]; try dsimp only
            refine ⟨trivial, fun w671 τ671 hq671 => ?_⟩
            obtain ⟨rfl, u671, p671_, hu671, rfl⟩ := hq671 (show ¬ (14 : Int32) = 0 by decide)
            dsimp only [Option.toList, List.cons_append, List.nil_append, Nat.beq, gI_sI, gI_sL, gI_sA, gI_sM, gL_sI, gL_sL, gL_sA, gL_sM, aI_sI, aI_sL, aI_sA, aI_sM, aL_sI, aL_sL, aL_sA, aL_sM]
            refine hB _ _ _ _ _ (fun m672 hm672 => ?_)
            dsimp only [ugo, uwp, ust, uct, rfd, BflowStep, BflowStep_1420, Nat.beq, lv_args, rlk, rs1, rs2, rdl, rky, rcd, rno, rsw, Value.category, List.filter, List.take, List.drop, List.reverse, List.reverseAux, List.cons_append, List.nil_append, Option.toList, Int.toNat, Int.reduceToNat, if_pos, if_neg, reduceIte, ↓reduceIte, Nat.reduceAdd, Nat.reduceEqDiff, Nat.reduceBEq, beq_self_eq_true, Bool.not_true, Bool.not_false, Bool.and_true, Bool.and_false, Bool.true_and, Bool.false_and, gI_sI, gI_sL, gI_sA, gI_sM, gL_sI, gL_sL, gL_sA, gL_sM, aI_sI, aI_sL, aI_sA, aI_sM, aL_sI, aL_sL, aL_sA, aL_sM, oi_1]; try dsimp only
            unfold Qv_flowStep
            try dsimp only
            have es : fsS (laS σ u671 p671_) c = ((laS σ u671 p671_), (c + 1)) := fs_d (by show ¬ ((20 ≤ (aI σ 19 c.toNatClampNeg).toInt ∧ (aI σ 19 c.toNatClampNeg).toInt ≤ 25) ∨ (aI σ 19 c.toNatClampNeg).toInt = 27 ∨ (aI σ 19 c.toNatClampNeg).toInt = 28 ∨ (aI σ 19 c.toNatClampNeg).toInt = 30 ∨ (aI σ 19 c.toNatClampNeg).toInt = 31 ∨ (aI σ 19 c.toNatClampNeg).toInt = 33 ∨ (aI σ 19 c.toNatClampNeg).toInt = 35 ∨ (aI σ 19 c.toNatClampNeg).toInt = 36 ∨ (aI σ 19 c.toNatClampNeg).toInt = 37 ∨ (aI σ 19 c.toNatClampNeg).toInt = 38 ∨ (aI σ 19 c.toNatClampNeg).toInt = 39 ∨ (aI σ 19 c.toNatClampNeg).toInt = 40 ∨ (aI σ 19 c.toNatClampNeg).toInt = 42 ∨ (aI σ 19 c.toNatClampNeg).toInt = 45 ∨ (aI σ 19 c.toNatClampNeg).toInt = 46 ∨ (aI σ 19 c.toNatClampNeg).toInt = 47 ∨ (aI σ 19 c.toNatClampNeg).toInt = 48 ∨ (aI σ 19 c.toNatClampNeg).toInt = 49 ∨ (aI σ 19 c.toNatClampNeg).toInt = 50 ∨ (aI σ 19 c.toNatClampNeg).toInt = 51 ∨ (aI σ 19 c.toNatClampNeg).toInt = 52 ∨ (aI σ 19 c.toNatClampNeg).toInt = 53); omega)
            refine ⟨u671, p671_, ⟨fun _ => Or.inr (Or.inr ⟨by omega, by assumption, by assumption⟩), fun _ => hu671⟩, ?_, ?_⟩
            · exact (congrArg Prod.fst es).symm
            · exact congrArg (fun z => some (Value.int z)) (congrArg Prod.snd es).symm
      have c662 : ¬ (aI σ 19 c.toNatClampNeg).toInt = 54 := fun q => h662 ((rfl : (aI σ 19 c.toNatClampNeg).toInt = (aI σ 19 c.toNatClampNeg).toInt).trans q)
      refine hB _ _ _ _ _ (fun m673 hm673 => ?_)
      dsimp only [ugo, uwp, ust, uct, rfd, BflowStep, BflowStep_1420, Nat.beq, lv_args, rlk, rs1, rs2, rdl, rky, rcd, rno, rsw, Value.category, List.filter, List.take, List.drop, List.reverse, List.reverseAux, List.cons_append, List.nil_append, Option.toList, Int.toNat, Int.reduceToNat, if_pos, if_neg, reduceIte, ↓reduceIte, Nat.reduceAdd, Nat.reduceEqDiff, Nat.reduceBEq, beq_self_eq_true, Bool.not_true, Bool.not_false, Bool.and_true, Bool.and_false, Bool.true_and, Bool.false_and, gI_sI, gI_sL, gI_sA, gI_sM, gL_sI, gL_sL, gL_sA, gL_sM, aI_sI, aI_sL, aI_sA, aI_sM, aL_sI, aL_sL, aL_sA, aL_sM, oi_1]; try dsimp only
      unfold Qv_flowStep
      try dsimp only
      have es : fsS σ c = (σ, (c + 1)) := fs_d (by show ¬ ((20 ≤ (aI σ 19 c.toNatClampNeg).toInt ∧ (aI σ 19 c.toNatClampNeg).toInt ≤ 25) ∨ (aI σ 19 c.toNatClampNeg).toInt = 27 ∨ (aI σ 19 c.toNatClampNeg).toInt = 28 ∨ (aI σ 19 c.toNatClampNeg).toInt = 30 ∨ (aI σ 19 c.toNatClampNeg).toInt = 31 ∨ (aI σ 19 c.toNatClampNeg).toInt = 33 ∨ (aI σ 19 c.toNatClampNeg).toInt = 35 ∨ (aI σ 19 c.toNatClampNeg).toInt = 36 ∨ (aI σ 19 c.toNatClampNeg).toInt = 37 ∨ (aI σ 19 c.toNatClampNeg).toInt = 38 ∨ (aI σ 19 c.toNatClampNeg).toInt = 39 ∨ (aI σ 19 c.toNatClampNeg).toInt = 40 ∨ (aI σ 19 c.toNatClampNeg).toInt = 42 ∨ (aI σ 19 c.toNatClampNeg).toInt = 45 ∨ (aI σ 19 c.toNatClampNeg).toInt = 46 ∨ (aI σ 19 c.toNatClampNeg).toInt = 47 ∨ (aI σ 19 c.toNatClampNeg).toInt = 48 ∨ (aI σ 19 c.toNatClampNeg).toInt = 49 ∨ (aI σ 19 c.toNatClampNeg).toInt = 50 ∨ (aI σ 19 c.toNatClampNeg).toInt = 51 ∨ (aI σ 19 c.toNatClampNeg).toInt = 52 ∨ (aI σ 19 c.toNatClampNeg).toInt = 53); omega)
      refine ⟨(gI σ 112), (gI σ 113), ⟨Or.inl, fun q => q.elim id (fun z => absurd z (fun z => z.elim (fun y => by omega) (fun y => by omega)))⟩, ?_, ?_⟩
      · rw [la_id]
        exact (congrArg Prod.fst es).symm
      · rw [la_id]
        exact congrArg (fun z => some (Value.int z)) (congrArg Prod.snd es).symm
    intro n0
    refine hB _ _ _ _ _ (fun m1 hm1 => ?_)
    dsimp only [ugo, uwp, ust, uct, rfd, BflowStep, BflowStep_0, Nat.beq, lv_args, rlk, rs1, rs2, rdl, rky, rcd, rno, rsw, Value.category, List.filter, List.take, List.drop, List.reverse, List.reverseAux, List.cons_append, List.nil_append, Option.toList, Int.toNat, Int.reduceToNat, if_pos, if_neg, reduceIte, ↓reduceIte, Nat.reduceAdd, Nat.reduceEqDiff, Nat.reduceBEq, beq_self_eq_true, Bool.not_true, Bool.not_false, Bool.and_true, Bool.and_false, Bool.true_and, Bool.false_and, gI_sI, gI_sL, gI_sA, gI_sM, gL_sI, gL_sL, gL_sA, gL_sM, aI_sI, aI_sL, aI_sA, aI_sM, aL_sI, aL_sL, aL_sA, aL_sM]; try dsimp only
    intro p2
    intro p3
    intro p4
    have t39 : ∀ (M_ : Nat) (q4 : Int32), q4 = alR σ c → K M_ 39 [(0, .ref 1000), (1, .int c), (2, .int ((aI σ 20) (c).toNatClampNeg)), (3, .int ((aI σ 22) (c).toNatClampNeg))] [.int q4] σ := by
      intro M_ q4 hq4
      refine hB _ _ _ _ _ (fun m5 hm5 => ?_)
      dsimp only [ugo, uwp, ust, uct, rfd, BflowStep, BflowStep_39, Nat.beq, lv_args, rlk, rs1, rs2, rdl, rky, rcd, rno, rsw, Value.category, List.filter, List.take, List.drop, List.reverse, List.reverseAux, List.cons_append, List.nil_append, Option.toList, Int.toNat, Int.reduceToNat, if_pos, if_neg, reduceIte, ↓reduceIte, Nat.reduceAdd, Nat.reduceEqDiff, Nat.reduceBEq, beq_self_eq_true, Bool.not_true, Bool.not_false, Bool.and_true, Bool.and_false, Bool.true_and, Bool.false_and, gI_sI, gI_sL, gI_sA, gI_sM, gL_sI, gL_sL, gL_sA, gL_sM, aI_sI, aI_sL, aI_sA, aI_sM, aL_sI, aL_sL, aL_sA, aL_sM]; try dsimp only
      intro p6
      refine ⟨fun h7 => ?_, fun h7 => ?_⟩
      · refine hB _ _ _ _ _ (fun m8 hm8 => ?_)
        dsimp only [ugo, uwp, ust, uct, rfd, BflowStep, BflowStep_65, Nat.beq, lv_args, rlk, rs1, rs2, rdl, rky, rcd, rno, rsw, Value.category, List.filter, List.take, List.drop, List.reverse, List.reverseAux, List.cons_append, List.nil_append, Option.toList, Int.toNat, Int.reduceToNat, if_pos, if_neg, reduceIte, ↓reduceIte, Nat.reduceAdd, Nat.reduceEqDiff, Nat.reduceBEq, beq_self_eq_true, Bool.not_true, Bool.not_false, Bool.and_true, Bool.and_false, Bool.true_and, Bool.false_and, gI_sI, gI_sL, gI_sA, gI_sM, gL_sI, gL_sL, gL_sA, gL_sM, aI_sI, aI_sL, aI_sA, aI_sM, aL_sI, aL_sL, aL_sA, aL_sM, oi_0]; try dsimp only
        have e5 : (0 : Int32) = neR σ c := (if_neg (fun q => by obtain ⟨q1, q2⟩ := q; contradiction)).symm
        rw [e5, hq4]
        exact hW _ 66 [(0, .ref 1000), (1, .int c), (2, .int ((aI σ 20) (c).toNatClampNeg)), (3, .int ((aI σ 22) (c).toNatClampNeg)), (4, .int (alR σ c))] _ _ _ (by simp [rdl, rky, Value.category]) (t66 _)
      · refine hB _ _ _ _ _ (fun m9 hm9 => ?_)
        dsimp only [ugo, uwp, ust, uct, rfd, BflowStep, BflowStep_50, Nat.beq, lv_args, rlk, rs1, rs2, rdl, rky, rcd, rno, rsw, Value.category, List.filter, List.take, List.drop, List.reverse, List.reverseAux, List.cons_append, List.nil_append, Option.toList, Int.toNat, Int.reduceToNat, if_pos, if_neg, reduceIte, ↓reduceIte, Nat.reduceAdd, Nat.reduceEqDiff, Nat.reduceBEq, beq_self_eq_true, Bool.not_true, Bool.not_false, Bool.and_true, Bool.and_false, Bool.true_and, Bool.false_and, gI_sI, gI_sL, gI_sA, gI_sM, gL_sI, gL_sL, gL_sA, gL_sM, aI_sI, aI_sL, aI_sA, aI_sM, aL_sI, aL_sL, aL_sA, aL_sM]; try dsimp only
        intro p10
        refine ⟨fun h11 => ?_, fun h11 => ?_⟩
        · have c11 : ¬ ((aL σ 85) (c).toNatClampNeg) = (0 : Int64) := fun q => h11 ((cL (a := (0 : Int64)) (b := ((aL σ 85) (c).toNatClampNeg))).1.mpr q)
          refine hB _ _ _ _ _ (fun m12 hm12 => ?_)
          dsimp only [ugo, uwp, ust, uct, rfd, BflowStep, BflowStep_65, Nat.beq, lv_args, rlk, rs1, rs2, rdl, rky, rcd, rno, rsw, Value.category, List.filter, List.take, List.drop, List.reverse, List.reverseAux, List.cons_append, List.nil_append, Option.toList, Int.toNat, Int.reduceToNat, if_pos, if_neg, reduceIte, ↓reduceIte, Nat.reduceAdd, Nat.reduceEqDiff, Nat.reduceBEq, beq_self_eq_true, Bool.not_true, Bool.not_false, Bool.and_true, Bool.and_false, Bool.true_and, Bool.false_and, gI_sI, gI_sL, gI_sA, gI_sM, gL_sI, gL_sL, gL_sA, gL_sM, aI_sI, aI_sL, aI_sA, aI_sM, aL_sI, aL_sL, aL_sA, aL_sM, oi_0]; try dsimp only
          have e5 : (0 : Int32) = neR σ c := (if_neg (fun q => by obtain ⟨q1, q2⟩ := q; contradiction)).symm
          rw [e5, hq4]
          exact hW _ 66 [(0, .ref 1000), (1, .int c), (2, .int ((aI σ 20) (c).toNatClampNeg)), (3, .int ((aI σ 22) (c).toNatClampNeg)), (4, .int (alR σ c))] _ _ _ (by simp [rdl, rky, Value.category]) (t66 _)
        · have c11 : ((aL σ 85) (c).toNatClampNeg) = (0 : Int64) := (cL (a := (0 : Int64)) (b := ((aL σ 85) (c).toNatClampNeg))).1.mp h11
          refine hB _ _ _ _ _ (fun m13 hm13 => ?_)
          dsimp only [ugo, uwp, ust, uct, rfd, BflowStep, BflowStep_61, Nat.beq, lv_args, rlk, rs1, rs2, rdl, rky, rcd, rno, rsw, Value.category, List.filter, List.take, List.drop, List.reverse, List.reverseAux, List.cons_append, List.nil_append, Option.toList, Int.toNat, Int.reduceToNat, if_pos, if_neg, reduceIte, ↓reduceIte, Nat.reduceAdd, Nat.reduceEqDiff, Nat.reduceBEq, beq_self_eq_true, Bool.not_true, Bool.not_false, Bool.and_true, Bool.and_false, Bool.true_and, Bool.false_and, gI_sI, gI_sL, gI_sA, gI_sM, gL_sI, gL_sL, gL_sA, gL_sM, aI_sI, aI_sL, aI_sA, aI_sM, aL_sI, aL_sL, aL_sA, aL_sM, oi_1]; try dsimp only
          have e5 : (1 : Int32) = neR σ c := (if_pos ⟨by assumption, by assumption⟩).symm
          rw [e5, hq4]
          exact hW _ 66 [(0, .ref 1000), (1, .int c), (2, .int ((aI σ 20) (c).toNatClampNeg)), (3, .int ((aI σ 22) (c).toNatClampNeg)), (4, .int (alR σ c))] _ _ _ (by simp [rdl, rky, Value.category]) (t66 _)
    refine ⟨fun h14 => ?_, fun h14 => ?_⟩
    · refine hB _ _ _ _ _ (fun m15 hm15 => ?_)
      dsimp only [ugo, uwp, ust, uct, rfd, BflowStep, BflowStep_38, Nat.beq, lv_args, rlk, rs1, rs2, rdl, rky, rcd, rno, rsw, Value.category, List.filter, List.take, List.drop, List.reverse, List.reverseAux, List.cons_append, List.nil_append, Option.toList, Int.toNat, Int.reduceToNat, if_pos, if_neg, reduceIte, ↓reduceIte, Nat.reduceAdd, Nat.reduceEqDiff, Nat.reduceBEq, beq_self_eq_true, Bool.not_true, Bool.not_false, Bool.and_true, Bool.and_false, Bool.true_and, Bool.false_and, gI_sI, gI_sL, gI_sA, gI_sM, gL_sI, gL_sL, gL_sA, gL_sM, aI_sI, aI_sL, aI_sA, aI_sM, aL_sI, aL_sL, aL_sA, aL_sM, oi_0]; try dsimp only
      exact hW _ 39 [(0, .ref 1000), (1, .int c), (2, .int ((aI σ 20) (c).toNatClampNeg)), (3, .int ((aI σ 22) (c).toNatClampNeg))] _ _ _ (by simp [rdl, rky, Value.category]) (t39 _ 0 (if_neg (fun q => by obtain ⟨q1, q2⟩ := q; contradiction)).symm)
    · refine hB _ _ _ _ _ (fun m16 hm16 => ?_)
      dsimp only [ugo, uwp, ust, uct, rfd, BflowStep, BflowStep_23, Nat.beq, lv_args, rlk, rs1, rs2, rdl, rky, rcd, rno, rsw, Value.category, List.filter, List.take, List.drop, List.reverse, List.reverseAux, List.cons_append, List.nil_append, Option.toList, Int.toNat, Int.reduceToNat, if_pos, if_neg, reduceIte, ↓reduceIte, Nat.reduceAdd, Nat.reduceEqDiff, Nat.reduceBEq, beq_self_eq_true, Bool.not_true, Bool.not_false, Bool.and_true, Bool.and_false, Bool.true_and, Bool.false_and, gI_sI, gI_sL, gI_sA, gI_sM, gL_sI, gL_sL, gL_sA, gL_sM, aI_sI, aI_sL, aI_sA, aI_sM, aL_sI, aL_sL, aL_sA, aL_sM]; try dsimp only
      intro p17
      refine ⟨fun h18 => ?_, fun h18 => ?_⟩
      · have c18 : ((aL σ 85) (c).toNatClampNeg) = (0 : Int64) := (cL (a := (0 : Int64)) (b := ((aL σ 85) (c).toNatClampNeg))).1.mp h18
        refine hB _ _ _ _ _ (fun m19 hm19 => ?_)
        dsimp only [ugo, uwp, ust, uct, rfd, BflowStep, BflowStep_38, Nat.beq, lv_args, rlk, rs1, rs2, rdl, rky, rcd, rno, rsw, Value.category, List.filter, List.take, List.drop, List.reverse, List.reverseAux, List.cons_append, List.nil_append, Option.toList, Int.toNat, Int.reduceToNat, if_pos, if_neg, reduceIte, ↓reduceIte, Nat.reduceAdd, Nat.reduceEqDiff, Nat.reduceBEq, beq_self_eq_true, Bool.not_true, Bool.not_false, Bool.and_true, Bool.and_false, Bool.true_and, Bool.false_and, gI_sI, gI_sL, gI_sA, gI_sM, gL_sI, gL_sL, gL_sA, gL_sM, aI_sI, aI_sL, aI_sA, aI_sM, aL_sI, aL_sL, aL_sA, aL_sM, oi_0]; try dsimp only
        exact hW _ 39 [(0, .ref 1000), (1, .int c), (2, .int ((aI σ 20) (c).toNatClampNeg)), (3, .int ((aI σ 22) (c).toNatClampNeg))] _ _ _ (by simp [rdl, rky, Value.category]) (t39 _ 0 (if_neg (fun q => by obtain ⟨q1, q2⟩ := q; contradiction)).symm)
      · have c18 : ¬ ((aL σ 85) (c).toNatClampNeg) = (0 : Int64) := fun q => h18 ((cL (a := (0 : Int64)) (b := ((aL σ 85) (c).toNatClampNeg))).1.mpr q)
        refine hB _ _ _ _ _ (fun m20 hm20 => ?_)
        dsimp only [ugo, uwp, ust, uct, rfd, BflowStep, BflowStep_34, Nat.beq, lv_args, rlk, rs1, rs2, rdl, rky, rcd, rno, rsw, Value.category, List.filter, List.take, List.drop, List.reverse, List.reverseAux, List.cons_append, List.nil_append, Option.toList, Int.toNat, Int.reduceToNat, if_pos, if_neg, reduceIte, ↓reduceIte, Nat.reduceAdd, Nat.reduceEqDiff, Nat.reduceBEq, beq_self_eq_true, Bool.not_true, Bool.not_false, Bool.and_true, Bool.and_false, Bool.true_and, Bool.false_and, gI_sI, gI_sL, gI_sA, gI_sM, gL_sI, gL_sL, gL_sA, gL_sM, aI_sI, aI_sL, aI_sA, aI_sM, aL_sI, aL_sL, aL_sA, aL_sM, oi_1]; try dsimp only
        exact hW _ 39 [(0, .ref 1000), (1, .int c), (2, .int ((aI σ 20) (c).toNatClampNeg)), (3, .int ((aI σ 22) (c).toNatClampNeg))] _ _ _ (by simp [rdl, rky, Value.category]) (t39 _ 1 (if_pos ⟨by assumption, by assumption⟩).symm)
  next => exact hP.elim
theorem w_flowStep : UMet 121 (fun _ _ => True) Qw_flowStep := fun A1 σ _ w τ h hP => v_flowStep A1 σ hP w τ h
