def cutL_clerk_306 (R F : Nat → Nat → Int32) (w8 : Nat) (p9 : Int32) (kw : Nat) (o : Nat) (q : Nat) : Int32 × (Nat → Nat → Int32) × (Nat → Nat → Int32) :=
  (if (R 89 (5 * w8)) ≤ (R 88 (5 * w8)) then (if ((xX1_complain (sR (sR (sR (sR R 89 ((5 * w8) + 4) (1 : Int32)) 89 ((5 * w8) + 2) ((0 : Int32) * (R 89 ((5 * w8) + 3)))) 83 3 ((R 83 3) - (0 : Int32))) 83 5 ((R 83 5) + ((0 : Int32) * (R 89 ((5 * w8) + 3))))) F (nI w8) o q).1) = (((xX1_complain (sR (sR (sR (sR R 89 ((5 * w8) + 4) (1 : Int32)) 89 ((5 * w8) + 2) ((0 : Int32) * (R 89 ((5 * w8) + 3)))) 83 3 ((R 83 3) - (0 : Int32))) 83 5 ((R 83 5) + ((0 : Int32) * (R 89 ((5 * w8) + 3))))) F (nI w8) o q).2.1) 89 ((5 * w8) + 2)) then ((1 : Int32), ((xX1_complain (sR (sR (sR (sR R 89 ((5 * w8) + 4) (1 : Int32)) 89 ((5 * w8) + 2) ((0 : Int32) * (R 89 ((5 * w8) + 3)))) 83 3 ((R 83 3) - (0 : Int32))) 83 5 ((R 83 5) + ((0 : Int32) * (R 89 ((5 * w8) + 3))))) F (nI w8) o q).2.1), ((xX1_complain (sR (sR (sR (sR R 89 ((5 * w8) + 4) (1 : Int32)) 89 ((5 * w8) + 2) ((0 : Int32) * (R 89 ((5 * w8) + 3)))) 83 3 ((R 83 3) - (0 : Int32))) 83 5 ((R 83 5) + ((0 : Int32) * (R 89 ((5 * w8) + 3))))) F (nI w8) o q).2.2)) else ((0 : Int32), ((xX1_complain (sR (sR (sR (sR R 89 ((5 * w8) + 4) (1 : Int32)) 89 ((5 * w8) + 2) ((0 : Int32) * (R 89 ((5 * w8) + 3)))) 83 3 ((R 83 3) - (0 : Int32))) 83 5 ((R 83 5) + ((0 : Int32) * (R 89 ((5 * w8) + 3))))) F (nI w8) o q).2.1), ((xX1_complain (sR (sR (sR (sR R 89 ((5 * w8) + 4) (1 : Int32)) 89 ((5 * w8) + 2) ((0 : Int32) * (R 89 ((5 * w8) + 3)))) 83 3 ((R 83 3) - (0 : Int32))) 83 5 ((R 83 5) + ((0 : Int32) * (R 89 ((5 * w8) + 3))))) F (nI w8) o q).2.2))) else (if ((xX1_complain (sR (sR (sR (sR R 89 ((5 * w8) + 4) (1 : Int32)) 89 ((5 * w8) + 2) (((R 89 (5 * w8)) - (R 88 (5 * w8))) * (R 89 ((5 * w8) + 3)))) 83 3 ((R 83 3) - ((R 89 (5 * w8)) - (R 88 (5 * w8))))) 83 5 ((R 83 5) + (((R 89 (5 * w8)) - (R 88 (5 * w8))) * (R 89 ((5 * w8) + 3))))) F (nI w8) o q).1) = (((xX1_complain (sR (sR (sR (sR R 89 ((5 * w8) + 4) (1 : Int32)) 89 ((5 * w8) + 2) (((R 89 (5 * w8)) - (R 88 (5 * w8))) * (R 89 ((5 * w8) + 3)))) 83 3 ((R 83 3) - ((R 89 (5 * w8)) - (R 88 (5 * w8))))) 83 5 ((R 83 5) + (((R 89 (5 * w8)) - (R 88 (5 * w8))) * (R 89 ((5 * w8) + 3))))) F (nI w8) o q).2.1) 89 ((5 * w8) + 2)) then ((1 : Int32), ((xX1_complain (sR (sR (sR (sR R 89 ((5 * w8) + 4) (1 : Int32)) 89 ((5 * w8) + 2) (((R 89 (5 * w8)) - (R 88 (5 * w8))) * (R 89 ((5 * w8) + 3)))) 83 3 ((R 83 3) - ((R 89 (5 * w8)) - (R 88 (5 * w8))))) 83 5 ((R 83 5) + (((R 89 (5 * w8)) - (R 88 (5 * w8))) * (R 89 ((5 * w8) + 3))))) F (nI w8) o q).2.1), ((xX1_complain (sR (sR (sR (sR R 89 ((5 * w8) + 4) (1 : Int32)) 89 ((5 * w8) + 2) (((R 89 (5 * w8)) - (R 88 (5 * w8))) * (R 89 ((5 * w8) + 3)))) 83 3 ((R 83 3) - ((R 89 (5 * w8)) - (R 88 (5 * w8))))) 83 5 ((R 83 5) + (((R 89 (5 * w8)) - (R 88 (5 * w8))) * (R 89 ((5 * w8) + 3))))) F (nI w8) o q).2.2)) else ((0 : Int32), ((xX1_complain (sR (sR (sR (sR R 89 ((5 * w8) + 4) (1 : Int32)) 89 ((5 * w8) + 2) (((R 89 (5 * w8)) - (R 88 (5 * w8))) * (R 89 ((5 * w8) + 3)))) 83 3 ((R 83 3) - ((R 89 (5 * w8)) - (R 88 (5 * w8))))) 83 5 ((R 83 5) + (((R 89 (5 * w8)) - (R 88 (5 * w8))) * (R 89 ((5 * w8) + 3))))) F (nI w8) o q).2.1), ((xX1_complain (sR (sR (sR (sR R 89 ((5 * w8) + 4) (1 : Int32)) 89 ((5 * w8) + 2) (((R 89 (5 * w8)) - (R 88 (5 * w8))) * (R 89 ((5 * w8) + 3)))) 83 3 ((R 83 3) - ((R 89 (5 * w8)) - (R 88 (5 * w8))))) 83 5 ((R 83 5) + (((R 89 (5 * w8)) - (R 88 (5 * w8))) * (R 89 ((5 * w8) + 3))))) F (nI w8) o q).2.2))))
def hL_clerk_76 (R F : Nat → Nat → Int32) (w8 : Nat) (p9 : Int32) (kw : Nat) (o : Nat) (q : Nat) : Nat → Nat → Int32 → Int32 × (Nat → Nat → Int32) × (Nat → Nat → Int32)
  | 0, k, x10 => (if (((xL_estimate (R 83) (R 84) (R 86) (R 88) w8 kw) * (xL_certainty (R 83) (R 87) (R 88) w8)) / (100 : Int32)) ≤ (x10 - (R 83 3)) then (if (0 : Int32) ≤ (((xL_estimate (R 83) (R 84) (R 86) (R 88) w8 kw) * (xL_certainty (R 83) (R 87) (R 88) w8)) / (100 : Int32)) then (if (((xL_estimate (R 83) (R 84) (R 86) (R 88) w8 kw) * (xL_certainty (R 83) (R 87) (R 88) w8)) / (100 : Int32)) ≤ (19 : Int32) then (if ((xX1_bill (sR (sR (sR (sR (sR (sR R 89 (5 * w8) (((xL_estimate (R 83) (R 84) (R 86) (R 88) w8 kw) * (xL_certainty (R 83) (R 87) (R 88) w8)) / (100 : Int32))) 89 ((5 * w8) + 1) ((((xL_estimate (R 83) (R 84) (R 86) (R 88) w8 kw) * (xL_certainty (R 83) (R 87) (R 88) w8)) / (100 : Int32)) * (R 83 2))) 89 ((5 * w8) + 3) (R 83 2)) 88 ((5 * w8) + 2) (R 88 ((5 * w8) + 2))) 83 3 ((R 83 3) + (((xL_estimate (R 83) (R 84) (R 86) (R 88) w8 kw) * (xL_certainty (R 83) (R 87) (R 88) w8)) / (100 : Int32)))) 83 4 ((R 83 4) + ((((xL_estimate (R 83) (R 84) (R 86) (R 88) w8 kw) * (xL_certainty (R 83) (R 87) (R 88) w8)) / (100 : Int32)) * (R 83 2)))) F (nI w8) o q).1) = (((xL_estimate (R 83) (R 84) (R 86) (R 88) w8 kw) * (xL_certainty (R 83) (R 87) (R 88) w8)) / (100 : Int32)) then ((1 : Int32), ((xX1_bill (sR (sR (sR (sR (sR (sR R 89 (5 * w8) (((xL_estimate (R 83) (R 84) (R 86) (R 88) w8 kw) * (xL_certainty (R 83) (R 87) (R 88) w8)) / (100 : Int32))) 89 ((5 * w8) + 1) ((((xL_estimate (R 83) (R 84) (R 86) (R 88) w8 kw) * (xL_certainty (R 83) (R 87) (R 88) w8)) / (100 : Int32)) * (R 83 2))) 89 ((5 * w8) + 3) (R 83 2)) 88 ((5 * w8) + 2) (R 88 ((5 * w8) + 2))) 83 3 ((R 83 3) + (((xL_estimate (R 83) (R 84) (R 86) (R 88) w8 kw) * (xL_certainty (R 83) (R 87) (R 88) w8)) / (100 : Int32)))) 83 4 ((R 83 4) + ((((xL_estimate (R 83) (R 84) (R 86) (R 88) w8 kw) * (xL_certainty (R 83) (R 87) (R 88) w8)) / (100 : Int32)) * (R 83 2)))) F (nI w8) o q).2.1), ((xX1_bill (sR (sR (sR (sR (sR (sR R 89 (5 * w8) (((xL_estimate (R 83) (R 84) (R 86) (R 88) w8 kw) * (xL_certainty (R 83) (R 87) (R 88) w8)) / (100 : Int32))) 89 ((5 * w8) + 1) ((((xL_estimate (R 83) (R 84) (R 86) (R 88) w8 kw) * (xL_certainty (R 83) (R 87) (R 88) w8)) / (100 : Int32)) * (R 83 2))) 89 ((5 * w8) + 3) (R 83 2)) 88 ((5 * w8) + 2) (R 88 ((5 * w8) + 2))) 83 3 ((R 83 3) + (((xL_estimate (R 83) (R 84) (R 86) (R 88) w8 kw) * (xL_certainty (R 83) (R 87) (R 88) w8)) / (100 : Int32)))) 83 4 ((R 83 4) + ((((xL_estimate (R 83) (R 84) (R 86) (R 88) w8 kw) * (xL_certainty (R 83) (R 87) (R 88) w8)) / (100 : Int32)) * (R 83 2)))) F (nI w8) o q).2.2)) else ((0 : Int32), ((xX1_bill (sR (sR (sR (sR (sR (sR R 89 (5 * w8) (((xL_estimate (R 83) (R 84) (R 86) (R 88) w8 kw) * (xL_certainty (R 83) (R 87) (R 88) w8)) / (100 : Int32))) 89 ((5 * w8) + 1) ((((xL_estimate (R 83) (R 84) (R 86) (R 88) w8 kw) * (xL_certainty (R 83) (R 87) (R 88) w8)) / (100 : Int32)) * (R 83 2))) 89 ((5 * w8) + 3) (R 83 2)) 88 ((5 * w8) + 2) (R 88 ((5 * w8) + 2))) 83 3 ((R 83 3) + (((xL_estimate (R 83) (R 84) (R 86) (R 88) w8 kw) * (xL_certainty (R 83) (R 87) (R 88) w8)) / (100 : Int32)))) 83 4 ((R 83 4) + ((((xL_estimate (R 83) (R 84) (R 86) (R 88) w8 kw) * (xL_certainty (R 83) (R 87) (R 88) w8)) / (100 : Int32)) * (R 83 2)))) F (nI w8) o q).2.1), ((xX1_bill (sR (sR (sR (sR (sR (sR R 89 (5 * w8) (((xL_estimate (R 83) (R 84) (R 86) (R 88) w8 kw) * (xL_certainty (R 83) (R 87) (R 88) w8)) / (100 : Int32))) 89 ((5 * w8) + 1) ((((xL_estimate (R 83) (R 84) (R 86) (R 88) w8 kw) * (xL_certainty (R 83) (R 87) (R 88) w8)) / (100 : Int32)) * (R 83 2))) 89 ((5 * w8) + 3) (R 83 2)) 88 ((5 * w8) + 2) (R 88 ((5 * w8) + 2))) 83 3 ((R 83 3) + (((xL_estimate (R 83) (R 84) (R 86) (R 88) w8 kw) * (xL_certainty (R 83) (R 87) (R 88) w8)) / (100 : Int32)))) 83 4 ((R 83 4) + ((((xL_estimate (R 83) (R 84) (R 86) (R 88) w8 kw) * (xL_certainty (R 83) (R 87) (R 88) w8)) / (100 : Int32)) * (R 83 2)))) F (nI w8) o q).2.2))) else (if ((xX1_bill (sR (sR (sR (sR (sR (sR R 89 (5 * w8) (((xL_estimate (R 83) (R 84) (R 86) (R 88) w8 kw) * (xL_certainty (R 83) (R 87) (R 88) w8)) / (100 : Int32))) 89 ((5 * w8) + 1) ((((xL_estimate (R 83) (R 84) (R 86) (R 88) w8 kw) * (xL_certainty (R 83) (R 87) (R 88) w8)) / (100 : Int32)) * (R 83 2))) 89 ((5 * w8) + 3) (R 83 2)) 88 ((5 * w8) + 2) (((xL_estimate (R 83) (R 84) (R 86) (R 88) w8 kw) * (xL_certainty (R 83) (R 87) (R 88) w8)) / (100 : Int32))) 83 3 ((R 83 3) + (((xL_estimate (R 83) (R 84) (R 86) (R 88) w8 kw) * (xL_certainty (R 83) (R 87) (R 88) w8)) / (100 : Int32)))) 83 4 ((R 83 4) + ((((xL_estimate (R 83) (R 84) (R 86) (R 88) w8 kw) * (xL_certainty (R 83) (R 87) (R 88) w8)) / (100 : Int32)) * (R 83 2)))) F (nI w8) o q).1) = (((xL_estimate (R 83) (R 84) (R 86) (R 88) w8 kw) * (xL_certainty (R 83) (R 87) (R 88) w8)) / (100 : Int32)) then ((1 : Int32), ((xX1_bill (sR (sR (sR (sR (sR (sR R 89 (5 * w8) (((xL_estimate (R 83) (R 84) (R 86) (R 88) w8 kw) * (xL_certainty (R 83) (R 87) (R 88) w8)) / (100 : Int32))) 89 ((5 * w8) + 1) ((((xL_estimate (R 83) (R 84) (R 86) (R 88) w8 kw) * (xL_certainty (R 83) (R 87) (R 88) w8)) / (100 : Int32)) * (R 83 2))) 89 ((5 * w8) + 3) (R 83 2)) 88 ((5 * w8) + 2) (((xL_estimate (R 83) (R 84) (R 86) (R 88) w8 kw) * (xL_certainty (R 83) (R 87) (R 88) w8)) / (100 : Int32))) 83 3 ((R 83 3) + (((xL_estimate (R 83) (R 84) (R 86) (R 88) w8 kw) * (xL_certainty (R 83) (R 87) (R 88) w8)) / (100 : Int32)))) 83 4 ((R 83 4) + ((((xL_estimate (R 83) (R 84) (R 86) (R 88) w8 kw) * (xL_certainty (R 83) (R 87) (R 88) w8)) / (100 : Int32)) * (R 83 2)))) F (nI w8) o q).2.1), ((xX1_bill (sR (sR (sR (sR (sR (sR R 89 (5 * w8) (((xL_estimate (R 83) (R 84) (R 86) (R 88) w8 kw) * (xL_certainty (R 83) (R 87) (R 88) w8)) / (100 : Int32))) 89 ((5 * w8) + 1) ((((xL_estimate (R 83) (R 84) (R 86) (R 88) w8 kw) * (xL_certainty (R 83) (R 87) (R 88) w8)) / (100 : Int32)) * (R 83 2))) 89 ((5 * w8) + 3) (R 83 2)) 88 ((5 * w8) + 2) (((xL_estimate (R 83) (R 84) (R 86) (R 88) w8 kw) * (xL_certainty (R 83) (R 87) (R 88) w8)) / (100 : Int32))) 83 3 ((R 83 3) + (((xL_estimate (R 83) (R 84) (R 86) (R 88) w8 kw) * (xL_certainty (R 83) (R 87) (R 88) w8)) / (100 : Int32)))) 83 4 ((R 83 4) + ((((xL_estimate (R 83) (R 84) (R 86) (R 88) w8 kw) * (xL_certainty (R 83) (R 87) (R 88) w8)) / (100 : Int32)) * (R 83 2)))) F (nI w8) o q).2.2)) else ((0 : Int32), ((xX1_bill (sR (sR (sR (sR (sR (sR R 89 (5 * w8) (((xL_estimate (R 83) (R 84) (R 86) (R 88) w8 kw) * (xL_certainty (R 83) (R 87) (R 88) w8)) / (100 : Int32))) 89 ((5 * w8) + 1) ((((xL_estimate (R 83) (R 84) (R 86) (R 88) w8 kw) * (xL_certainty (R 83) (R 87) (R 88) w8)) / (100 : Int32)) * (R 83 2))) 89 ((5 * w8) + 3) (R 83 2)) 88 ((5 * w8) + 2) (((xL_estimate (R 83) (R 84) (R 86) (R 88) w8 kw) * (xL_certainty (R 83) (R 87) (R 88) w8)) / (100 : Int32))) 83 3 ((R 83 3) + (((xL_estimate (R 83) (R 84) (R 86) (R 88) w8 kw) * (xL_certainty (R 83) (R 87) (R 88) w8)) / (100 : Int32)))) 83 4 ((R 83 4) + ((((xL_estimate (R 83) (R 84) (R 86) (R 88) w8 kw) * (xL_certainty (R 83) (R 87) (R 88) w8)) / (100 : Int32)) * (R 83 2)))) F (nI w8) o q).2.1), ((xX1_bill (sR (sR (sR (sR (sR (sR R 89 (5 * w8) (((xL_estimate (R 83) (R 84) (R 86) (R 88) w8 kw) * (xL_certainty (R 83) (R 87) (R 88) w8)) / (100 : Int32))) 89 ((5 * w8) + 1) ((((xL_estimate (R 83) (R 84) (R 86) (R 88) w8 kw) * (xL_certainty (R 83) (R 87) (R 88) w8)) / (100 : Int32)) * (R 83 2))) 89 ((5 * w8) + 3) (R 83 2)) 88 ((5 * w8) + 2) (((xL_estimate (R 83) (R 84) (R 86) (R 88) w8 kw) * (xL_certainty (R 83) (R 87) (R 88) w8)) / (100 : Int32))) 83 3 ((R 83 3) + (((xL_estimate (R 83) (R 84) (R 86) (R 88) w8 kw) * (xL_certainty (R 83) (R 87) (R 88) w8)) / (100 : Int32)))) 83 4 ((R 83 4) + ((((xL_estimate (R 83) (R 84) (R 86) (R 88) w8 kw) * (xL_certainty (R 83) (R 87) (R 88) w8)) / (100 : Int32)) * (R 83 2)))) F (nI w8) o q).2.2)))) else (if ((xX1_bill (sR (sR (sR (sR (sR (sR R 89 (5 * w8) (0 : Int32)) 89 ((5 * w8) + 1) ((0 : Int32) * (R 83 2))) 89 ((5 * w8) + 3) (R 83 2)) 88 ((5 * w8) + 2) (R 88 ((5 * w8) + 2))) 83 3 ((R 83 3) + (0 : Int32))) 83 4 ((R 83 4) + ((0 : Int32) * (R 83 2)))) F (nI w8) o q).1) = (0 : Int32) then ((1 : Int32), ((xX1_bill (sR (sR (sR (sR (sR (sR R 89 (5 * w8) (0 : Int32)) 89 ((5 * w8) + 1) ((0 : Int32) * (R 83 2))) 89 ((5 * w8) + 3) (R 83 2)) 88 ((5 * w8) + 2) (R 88 ((5 * w8) + 2))) 83 3 ((R 83 3) + (0 : Int32))) 83 4 ((R 83 4) + ((0 : Int32) * (R 83 2)))) F (nI w8) o q).2.1), ((xX1_bill (sR (sR (sR (sR (sR (sR R 89 (5 * w8) (0 : Int32)) 89 ((5 * w8) + 1) ((0 : Int32) * (R 83 2))) 89 ((5 * w8) + 3) (R 83 2)) 88 ((5 * w8) + 2) (R 88 ((5 * w8) + 2))) 83 3 ((R 83 3) + (0 : Int32))) 83 4 ((R 83 4) + ((0 : Int32) * (R 83 2)))) F (nI w8) o q).2.2)) else ((0 : Int32), ((xX1_bill (sR (sR (sR (sR (sR (sR R 89 (5 * w8) (0 : Int32)) 89 ((5 * w8) + 1) ((0 : Int32) * (R 83 2))) 89 ((5 * w8) + 3) (R 83 2)) 88 ((5 * w8) + 2) (R 88 ((5 * w8) + 2))) 83 3 ((R 83 3) + (0 : Int32))) 83 4 ((R 83 4) + ((0 : Int32) * (R 83 2)))) F (nI w8) o q).2.1), ((xX1_bill (sR (sR (sR (sR (sR (sR R 89 (5 * w8) (0 : Int32)) 89 ((5 * w8) + 1) ((0 : Int32) * (R 83 2))) 89 ((5 * w8) + 3) (R 83 2)) 88 ((5 * w8) + 2) (R 88 ((5 * w8) + 2))) 83 3 ((R 83 3) + (0 : Int32))) 83 4 ((R 83 4) + ((0 : Int32) * (R 83 2)))) F (nI w8) o q).2.2)))) else (if (0 : Int32) ≤ (x10 - (R 83 3)) then (if (x10 - (R 83 3)) ≤ (19 : Int32) then (if ((xX1_bill (sR (sR (sR (sR (sR (sR R 89 (5 * w8) (x10 - (R 83 3))) 89 ((5 * w8) + 1) ((x10 - (R 83 3)) * (R 83 2))) 89 ((5 * w8) + 3) (R 83 2)) 88 ((5 * w8) + 2) (R 88 ((5 * w8) + 2))) 83 3 ((R 83 3) + (x10 - (R 83 3)))) 83 4 ((R 83 4) + ((x10 - (R 83 3)) * (R 83 2)))) F (nI w8) o q).1) = (x10 - (R 83 3)) then ((1 : Int32), ((xX1_bill (sR (sR (sR (sR (sR (sR R 89 (5 * w8) (x10 - (R 83 3))) 89 ((5 * w8) + 1) ((x10 - (R 83 3)) * (R 83 2))) 89 ((5 * w8) + 3) (R 83 2)) 88 ((5 * w8) + 2) (R 88 ((5 * w8) + 2))) 83 3 ((R 83 3) + (x10 - (R 83 3)))) 83 4 ((R 83 4) + ((x10 - (R 83 3)) * (R 83 2)))) F (nI w8) o q).2.1), ((xX1_bill (sR (sR (sR (sR (sR (sR R 89 (5 * w8) (x10 - (R 83 3))) 89 ((5 * w8) + 1) ((x10 - (R 83 3)) * (R 83 2))) 89 ((5 * w8) + 3) (R 83 2)) 88 ((5 * w8) + 2) (R 88 ((5 * w8) + 2))) 83 3 ((R 83 3) + (x10 - (R 83 3)))) 83 4 ((R 83 4) + ((x10 - (R 83 3)) * (R 83 2)))) F (nI w8) o q).2.2)) else ((0 : Int32), ((xX1_bill (sR (sR (sR (sR (sR (sR R 89 (5 * w8) (x10 - (R 83 3))) 89 ((5 * w8) + 1) ((x10 - (R 83 3)) * (R 83 2))) 89 ((5 * w8) + 3) (R 83 2)) 88 ((5 * w8) + 2) (R 88 ((5 * w8) + 2))) 83 3 ((R 83 3) + (x10 - (R 83 3)))) 83 4 ((R 83 4) + ((x10 - (R 83 3)) * (R 83 2)))) F (nI w8) o q).2.1), ((xX1_bill (sR (sR (sR (sR (sR (sR R 89 (5 * w8) (x10 - (R 83 3))) 89 ((5 * w8) + 1) ((x10 - (R 83 3)) * (R 83 2))) 89 ((5 * w8) + 3) (R 83 2)) 88 ((5 * w8) + 2) (R 88 ((5 * w8) + 2))) 83 3 ((R 83 3) + (x10 - (R 83 3)))) 83 4 ((R 83 4) + ((x10 - (R 83 3)) * (R 83 2)))) F (nI w8) o q).2.2))) else (if ((xX1_bill (sR (sR (sR (sR (sR (sR R 89 (5 * w8) (x10 - (R 83 3))) 89 ((5 * w8) + 1) ((x10 - (R 83 3)) * (R 83 2))) 89 ((5 * w8) + 3) (R 83 2)) 88 ((5 * w8) + 2) (x10 - (R 83 3))) 83 3 ((R 83 3) + (x10 - (R 83 3)))) 83 4 ((R 83 4) + ((x10 - (R 83 3)) * (R 83 2)))) F (nI w8) o q).1) = (x10 - (R 83 3)) then ((1 : Int32), ((xX1_bill (sR (sR (sR (sR (sR (sR R 89 (5 * w8) (x10 - (R 83 3))) 89 ((5 * w8) + 1) ((x10 - (R 83 3)) * (R 83 2))) 89 ((5 * w8) + 3) (R 83 2)) 88 ((5 * w8) + 2) (x10 - (R 83 3))) 83 3 ((R 83 3) + (x10 - (R 83 3)))) 83 4 ((R 83 4) + ((x10 - (R 83 3)) * (R 83 2)))) F (nI w8) o q).2.1), ((xX1_bill (sR (sR (sR (sR (sR (sR R 89 (5 * w8) (x10 - (R 83 3))) 89 ((5 * w8) + 1) ((x10 - (R 83 3)) * (R 83 2))) 89 ((5 * w8) + 3) (R 83 2)) 88 ((5 * w8) + 2) (x10 - (R 83 3))) 83 3 ((R 83 3) + (x10 - (R 83 3)))) 83 4 ((R 83 4) + ((x10 - (R 83 3)) * (R 83 2)))) F (nI w8) o q).2.2)) else ((0 : Int32), ((xX1_bill (sR (sR (sR (sR (sR (sR R 89 (5 * w8) (x10 - (R 83 3))) 89 ((5 * w8) + 1) ((x10 - (R 83 3)) * (R 83 2))) 89 ((5 * w8) + 3) (R 83 2)) 88 ((5 * w8) + 2) (x10 - (R 83 3))) 83 3 ((R 83 3) + (x10 - (R 83 3)))) 83 4 ((R 83 4) + ((x10 - (R 83 3)) * (R 83 2)))) F (nI w8) o q).2.1), ((xX1_bill (sR (sR (sR (sR (sR (sR R 89 (5 * w8) (x10 - (R 83 3))) 89 ((5 * w8) + 1) ((x10 - (R 83 3)) * (R 83 2))) 89 ((5 * w8) + 3) (R 83 2)) 88 ((5 * w8) + 2) (x10 - (R 83 3))) 83 3 ((R 83 3) + (x10 - (R 83 3)))) 83 4 ((R 83 4) + ((x10 - (R 83 3)) * (R 83 2)))) F (nI w8) o q).2.2)))) else (if ((xX1_bill (sR (sR (sR (sR (sR (sR R 89 (5 * w8) (0 : Int32)) 89 ((5 * w8) + 1) ((0 : Int32) * (R 83 2))) 89 ((5 * w8) + 3) (R 83 2)) 88 ((5 * w8) + 2) (R 88 ((5 * w8) + 2))) 83 3 ((R 83 3) + (0 : Int32))) 83 4 ((R 83 4) + ((0 : Int32) * (R 83 2)))) F (nI w8) o q).1) = (0 : Int32) then ((1 : Int32), ((xX1_bill (sR (sR (sR (sR (sR (sR R 89 (5 * w8) (0 : Int32)) 89 ((5 * w8) + 1) ((0 : Int32) * (R 83 2))) 89 ((5 * w8) + 3) (R 83 2)) 88 ((5 * w8) + 2) (R 88 ((5 * w8) + 2))) 83 3 ((R 83 3) + (0 : Int32))) 83 4 ((R 83 4) + ((0 : Int32) * (R 83 2)))) F (nI w8) o q).2.1), ((xX1_bill (sR (sR (sR (sR (sR (sR R 89 (5 * w8) (0 : Int32)) 89 ((5 * w8) + 1) ((0 : Int32) * (R 83 2))) 89 ((5 * w8) + 3) (R 83 2)) 88 ((5 * w8) + 2) (R 88 ((5 * w8) + 2))) 83 3 ((R 83 3) + (0 : Int32))) 83 4 ((R 83 4) + ((0 : Int32) * (R 83 2)))) F (nI w8) o q).2.2)) else ((0 : Int32), ((xX1_bill (sR (sR (sR (sR (sR (sR R 89 (5 * w8) (0 : Int32)) 89 ((5 * w8) + 1) ((0 : Int32) * (R 83 2))) 89 ((5 * w8) + 3) (R 83 2)) 88 ((5 * w8) + 2) (R 88 ((5 * w8) + 2))) 83 3 ((R 83 3) + (0 : Int32))) 83 4 ((R 83 4) + ((0 : Int32) * (R 83 2)))) F (nI w8) o q).2.1), ((xX1_bill (sR (sR (sR (sR (sR (sR R 89 (5 * w8) (0 : Int32)) 89 ((5 * w8) + 1) ((0 : Int32) * (R 83 2))) 89 ((5 * w8) + 3) (R 83 2)) 88 ((5 * w8) + 2) (R 88 ((5 * w8) + 2))) 83 3 ((R 83 3) + (0 : Int32))) 83 4 ((R 83 4) + ((0 : Int32) * (R 83 2)))) F (nI w8) o q).2.2)))))
  | n + 1, k, x10 => (hL_clerk_76 R F w8 p9 kw o q n (k + 1) (x10 + (((xL_gets (R 83) (R 88) (nI k) 0 (-1 : Int32) kw) + (R 84 k)) - (R 86 k))))
theorem hL_clerk_76_z (R F : Nat → Nat → Int32) (w8 : Nat) (p9 : Int32) (kw : Nat) (o : Nat) (q : Nat) (k : Nat) (x10 : Int32) : hL_clerk_76 R F w8 p9 kw o q 0 k x10 = (if (((xL_estimate (R 83) (R 84) (R 86) (R 88) w8 kw) * (xL_certainty (R 83) (R 87) (R 88) w8)) / (100 : Int32)) ≤ (x10 - (R 83 3)) then (if (0 : Int32) ≤ (((xL_estimate (R 83) (R 84) (R 86) (R 88) w8 kw) * (xL_certainty (R 83) (R 87) (R 88) w8)) / (100 : Int32)) then (if (((xL_estimate (R 83) (R 84) (R 86) (R 88) w8 kw) * (xL_certainty (R 83) (R 87) (R 88) w8)) / (100 : Int32)) ≤ (19 : Int32) then (if ((xX1_bill (sR (sR (sR (sR (sR (sR R 89 (5 * w8) (((xL_estimate (R 83) (R 84) (R 86) (R 88) w8 kw) * (xL_certainty (R 83) (R 87) (R 88) w8)) / (100 : Int32))) 89 ((5 * w8) + 1) ((((xL_estimate (R 83) (R 84) (R 86) (R 88) w8 kw) * (xL_certainty (R 83) (R 87) (R 88) w8)) / (100 : Int32)) * (R 83 2))) 89 ((5 * w8) + 3) (R 83 2)) 88 ((5 * w8) + 2) (R 88 ((5 * w8) + 2))) 83 3 ((R 83 3) + (((xL_estimate (R 83) (R 84) (R 86) (R 88) w8 kw) * (xL_certainty (R 83) (R 87) (R 88) w8)) / (100 : Int32)))) 83 4 ((R 83 4) + ((((xL_estimate (R 83) (R 84) (R 86) (R 88) w8 kw) * (xL_certainty (R 83) (R 87) (R 88) w8)) / (100 : Int32)) * (R 83 2)))) F (nI w8) o q).1) = (((xL_estimate (R 83) (R 84) (R 86) (R 88) w8 kw) * (xL_certainty (R 83) (R 87) (R 88) w8)) / (100 : Int32)) then ((1 : Int32), ((xX1_bill (sR (sR (sR (sR (sR (sR R 89 (5 * w8) (((xL_estimate (R 83) (R 84) (R 86) (R 88) w8 kw) * (xL_certainty (R 83) (R 87) (R 88) w8)) / (100 : Int32))) 89 ((5 * w8) + 1) ((((xL_estimate (R 83) (R 84) (R 86) (R 88) w8 kw) * (xL_certainty (R 83) (R 87) (R 88) w8)) / (100 : Int32)) * (R 83 2))) 89 ((5 * w8) + 3) (R 83 2)) 88 ((5 * w8) + 2) (R 88 ((5 * w8) + 2))) 83 3 ((R 83 3) + (((xL_estimate (R 83) (R 84) (R 86) (R 88) w8 kw) * (xL_certainty (R 83) (R 87) (R 88) w8)) / (100 : Int32)))) 83 4 ((R 83 4) + ((((xL_estimate (R 83) (R 84) (R 86) (R 88) w8 kw) * (xL_certainty (R 83) (R 87) (R 88) w8)) / (100 : Int32)) * (R 83 2)))) F (nI w8) o q).2.1), ((xX1_bill (sR (sR (sR (sR (sR (sR R 89 (5 * w8) (((xL_estimate (R 83) (R 84) (R 86) (R 88) w8 kw) * (xL_certainty (R 83) (R 87) (R 88) w8)) / (100 : Int32))) 89 ((5 * w8) + 1) ((((xL_estimate (R 83) (R 84) (R 86) (R 88) w8 kw) * (xL_certainty (R 83) (R 87) (R 88) w8)) / (100 : Int32)) * (R 83 2))) 89 ((5 * w8) + 3) (R 83 2)) 88 ((5 * w8) + 2) (R 88 ((5 * w8) + 2))) 83 3 ((R 83 3) + (((xL_estimate (R 83) (R 84) (R 86) (R 88) w8 kw) * (xL_certainty (R 83) (R 87) (R 88) w8)) / (100 : Int32)))) 83 4 ((R 83 4) + ((((xL_estimate (R 83) (R 84) (R 86) (R 88) w8 kw) * (xL_certainty (R 83) (R 87) (R 88) w8)) / (100 : Int32)) * (R 83 2)))) F (nI w8) o q).2.2)) else ((0 : Int32), ((xX1_bill (sR (sR (sR (sR (sR (sR R 89 (5 * w8) (((xL_estimate (R 83) (R 84) (R 86) (R 88) w8 kw) * (xL_certainty (R 83) (R 87) (R 88) w8)) / (100 : Int32))) 89 ((5 * w8) + 1) ((((xL_estimate (R 83) (R 84) (R 86) (R 88) w8 kw) * (xL_certainty (R 83) (R 87) (R 88) w8)) / (100 : Int32)) * (R 83 2))) 89 ((5 * w8) + 3) (R 83 2)) 88 ((5 * w8) + 2) (R 88 ((5 * w8) + 2))) 83 3 ((R 83 3) + (((xL_estimate (R 83) (R 84) (R 86) (R 88) w8 kw) * (xL_certainty (R 83) (R 87) (R 88) w8)) / (100 : Int32)))) 83 4 ((R 83 4) + ((((xL_estimate (R 83) (R 84) (R 86) (R 88) w8 kw) * (xL_certainty (R 83) (R 87) (R 88) w8)) / (100 : Int32)) * (R 83 2)))) F (nI w8) o q).2.1), ((xX1_bill (sR (sR (sR (sR (sR (sR R 89 (5 * w8) (((xL_estimate (R 83) (R 84) (R 86) (R 88) w8 kw) * (xL_certainty (R 83) (R 87) (R 88) w8)) / (100 : Int32))) 89 ((5 * w8) + 1) ((((xL_estimate (R 83) (R 84) (R 86) (R 88) w8 kw) * (xL_certainty (R 83) (R 87) (R 88) w8)) / (100 : Int32)) * (R 83 2))) 89 ((5 * w8) + 3) (R 83 2)) 88 ((5 * w8) + 2) (R 88 ((5 * w8) + 2))) 83 3 ((R 83 3) + (((xL_estimate (R 83) (R 84) (R 86) (R 88) w8 kw) * (xL_certainty (R 83) (R 87) (R 88) w8)) / (100 : Int32)))) 83 4 ((R 83 4) + ((((xL_estimate (R 83) (R 84) (R 86) (R 88) w8 kw) * (xL_certainty (R 83) (R 87) (R 88) w8)) / (100 : Int32)) * (R 83 2)))) F (nI w8) o q).2.2))) else (if ((xX1_bill (sR (sR (sR (sR (sR (sR R 89 (5 * w8) (((xL_estimate (R 83) (R 84) (R 86) (R 88) w8 kw) * (xL_certainty (R 83) (R 87) (R 88) w8)) / (100 : Int32))) 89 ((5 * w8) + 1) ((((xL_estimate (R 83) (R 84) (R 86) (R 88) w8 kw) * (xL_certainty (R 83) (R 87) (R 88) w8)) / (100 : Int32)) * (R 83 2))) 89 ((5 * w8) + 3) (R 83 2)) 88 ((5 * w8) + 2) (((xL_estimate (R 83) (R 84) (R 86) (R 88) w8 kw) * (xL_certainty (R 83) (R 87) (R 88) w8)) / (100 : Int32))) 83 3 ((R 83 3) + (((xL_estimate (R 83) (R 84) (R 86) (R 88) w8 kw) * (xL_certainty (R 83) (R 87) (R 88) w8)) / (100 : Int32)))) 83 4 ((R 83 4) + ((((xL_estimate (R 83) (R 84) (R 86) (R 88) w8 kw) * (xL_certainty (R 83) (R 87) (R 88) w8)) / (100 : Int32)) * (R 83 2)))) F (nI w8) o q).1) = (((xL_estimate (R 83) (R 84) (R 86) (R 88) w8 kw) * (xL_certainty (R 83) (R 87) (R 88) w8)) / (100 : Int32)) then ((1 : Int32), ((xX1_bill (sR (sR (sR (sR (sR (sR R 89 (5 * w8) (((xL_estimate (R 83) (R 84) (R 86) (R 88) w8 kw) * (xL_certainty (R 83) (R 87) (R 88) w8)) / (100 : Int32))) 89 ((5 * w8) + 1) ((((xL_estimate (R 83) (R 84) (R 86) (R 88) w8 kw) * (xL_certainty (R 83) (R 87) (R 88) w8)) / (100 : Int32)) * (R 83 2))) 89 ((5 * w8) + 3) (R 83 2)) 88 ((5 * w8) + 2) (((xL_estimate (R 83) (R 84) (R 86) (R 88) w8 kw) * (xL_certainty (R 83) (R 87) (R 88) w8)) / (100 : Int32))) 83 3 ((R 83 3) + (((xL_estimate (R 83) (R 84) (R 86) (R 88) w8 kw) * (xL_certainty (R 83) (R 87) (R 88) w8)) / (100 : Int32)))) 83 4 ((R 83 4) + ((((xL_estimate (R 83) (R 84) (R 86) (R 88) w8 kw) * (xL_certainty (R 83) (R 87) (R 88) w8)) / (100 : Int32)) * (R 83 2)))) F (nI w8) o q).2.1), ((xX1_bill (sR (sR (sR (sR (sR (sR R 89 (5 * w8) (((xL_estimate (R 83) (R 84) (R 86) (R 88) w8 kw) * (xL_certainty (R 83) (R 87) (R 88) w8)) / (100 : Int32))) 89 ((5 * w8) + 1) ((((xL_estimate (R 83) (R 84) (R 86) (R 88) w8 kw) * (xL_certainty (R 83) (R 87) (R 88) w8)) / (100 : Int32)) * (R 83 2))) 89 ((5 * w8) + 3) (R 83 2)) 88 ((5 * w8) + 2) (((xL_estimate (R 83) (R 84) (R 86) (R 88) w8 kw) * (xL_certainty (R 83) (R 87) (R 88) w8)) / (100 : Int32))) 83 3 ((R 83 3) + (((xL_estimate (R 83) (R 84) (R 86) (R 88) w8 kw) * (xL_certainty (R 83) (R 87) (R 88) w8)) / (100 : Int32)))) 83 4 ((R 83 4) + ((((xL_estimate (R 83) (R 84) (R 86) (R 88) w8 kw) * (xL_certainty (R 83) (R 87) (R 88) w8)) / (100 : Int32)) * (R 83 2)))) F (nI w8) o q).2.2)) else ((0 : Int32), ((xX1_bill (sR (sR (sR (sR (sR (sR R 89 (5 * w8) (((xL_estimate (R 83) (R 84) (R 86) (R 88) w8 kw) * (xL_certainty (R 83) (R 87) (R 88) w8)) / (100 : Int32))) 89 ((5 * w8) + 1) ((((xL_estimate (R 83) (R 84) (R 86) (R 88) w8 kw) * (xL_certainty (R 83) (R 87) (R 88) w8)) / (100 : Int32)) * (R 83 2))) 89 ((5 * w8) + 3) (R 83 2)) 88 ((5 * w8) + 2) (((xL_estimate (R 83) (R 84) (R 86) (R 88) w8 kw) * (xL_certainty (R 83) (R 87) (R 88) w8)) / (100 : Int32))) 83 3 ((R 83 3) + (((xL_estimate (R 83) (R 84) (R 86) (R 88) w8 kw) * (xL_certainty (R 83) (R 87) (R 88) w8)) / (100 : Int32)))) 83 4 ((R 83 4) + ((((xL_estimate (R 83) (R 84) (R 86) (R 88) w8 kw) * (xL_certainty (R 83) (R 87) (R 88) w8)) / (100 : Int32)) * (R 83 2)))) F (nI w8) o q).2.1), ((xX1_bill (sR (sR (sR (sR (sR (sR R 89 (5 * w8) (((xL_estimate (R 83) (R 84) (R 86) (R 88) w8 kw) * (xL_certainty (R 83) (R 87) (R 88) w8)) / (100 : Int32))) 89 ((5 * w8) + 1) ((((xL_estimate (R 83) (R 84) (R 86) (R 88) w8 kw) * (xL_certainty (R 83) (R 87) (R 88) w8)) / (100 : Int32)) * (R 83 2))) 89 ((5 * w8) + 3) (R 83 2)) 88 ((5 * w8) + 2) (((xL_estimate (R 83) (R 84) (R 86) (R 88) w8 kw) * (xL_certainty (R 83) (R 87) (R 88) w8)) / (100 : Int32))) 83 3 ((R 83 3) + (((xL_estimate (R 83) (R 84) (R 86) (R 88) w8 kw) * (xL_certainty (R 83) (R 87) (R 88) w8)) / (100 : Int32)))) 83 4 ((R 83 4) + ((((xL_estimate (R 83) (R 84) (R 86) (R 88) w8 kw) * (xL_certainty (R 83) (R 87) (R 88) w8)) / (100 : Int32)) * (R 83 2)))) F (nI w8) o q).2.2)))) else (if ((xX1_bill (sR (sR (sR (sR (sR (sR R 89 (5 * w8) (0 : Int32)) 89 ((5 * w8) + 1) ((0 : Int32) * (R 83 2))) 89 ((5 * w8) + 3) (R 83 2)) 88 ((5 * w8) + 2) (R 88 ((5 * w8) + 2))) 83 3 ((R 83 3) + (0 : Int32))) 83 4 ((R 83 4) + ((0 : Int32) * (R 83 2)))) F (nI w8) o q).1) = (0 : Int32) then ((1 : Int32), ((xX1_bill (sR (sR (sR (sR (sR (sR R 89 (5 * w8) (0 : Int32)) 89 ((5 * w8) + 1) ((0 : Int32) * (R 83 2))) 89 ((5 * w8) + 3) (R 83 2)) 88 ((5 * w8) + 2) (R 88 ((5 * w8) + 2))) 83 3 ((R 83 3) + (0 : Int32))) 83 4 ((R 83 4) + ((0 : Int32) * (R 83 2)))) F (nI w8) o q).2.1), ((xX1_bill (sR (sR (sR (sR (sR (sR R 89 (5 * w8) (0 : Int32)) 89 ((5 * w8) + 1) ((0 : Int32) * (R 83 2))) 89 ((5 * w8) + 3) (R 83 2)) 88 ((5 * w8) + 2) (R 88 ((5 * w8) + 2))) 83 3 ((R 83 3) + (0 : Int32))) 83 4 ((R 83 4) + ((0 : Int32) * (R 83 2)))) F (nI w8) o q).2.2)) else ((0 : Int32), ((xX1_bill (sR (sR (sR (sR (sR (sR R 89 (5 * w8) (0 : Int32)) 89 ((5 * w8) + 1) ((0 : Int32) * (R 83 2))) 89 ((5 * w8) + 3) (R 83 2)) 88 ((5 * w8) + 2) (R 88 ((5 * w8) + 2))) 83 3 ((R 83 3) + (0 : Int32))) 83 4 ((R 83 4) + ((0 : Int32) * (R 83 2)))) F (nI w8) o q).2.1), ((xX1_bill (sR (sR (sR (sR (sR (sR R 89 (5 * w8) (0 : Int32)) 89 ((5 * w8) + 1) ((0 : Int32) * (R 83 2))) 89 ((5 * w8) + 3) (R 83 2)) 88 ((5 * w8) + 2) (R 88 ((5 * w8) + 2))) 83 3 ((R 83 3) + (0 : Int32))) 83 4 ((R 83 4) + ((0 : Int32) * (R 83 2)))) F (nI w8) o q).2.2)))) else (if (0 : Int32) ≤ (x10 - (R 83 3)) then (if (x10 - (R 83 3)) ≤ (19 : Int32) then (if ((xX1_bill (sR (sR (sR (sR (sR (sR R 89 (5 * w8) (x10 - (R 83 3))) 89 ((5 * w8) + 1) ((x10 - (R 83 3)) * (R 83 2))) 89 ((5 * w8) + 3) (R 83 2)) 88 ((5 * w8) + 2) (R 88 ((5 * w8) + 2))) 83 3 ((R 83 3) + (x10 - (R 83 3)))) 83 4 ((R 83 4) + ((x10 - (R 83 3)) * (R 83 2)))) F (nI w8) o q).1) = (x10 - (R 83 3)) then ((1 : Int32), ((xX1_bill (sR (sR (sR (sR (sR (sR R 89 (5 * w8) (x10 - (R 83 3))) 89 ((5 * w8) + 1) ((x10 - (R 83 3)) * (R 83 2))) 89 ((5 * w8) + 3) (R 83 2)) 88 ((5 * w8) + 2) (R 88 ((5 * w8) + 2))) 83 3 ((R 83 3) + (x10 - (R 83 3)))) 83 4 ((R 83 4) + ((x10 - (R 83 3)) * (R 83 2)))) F (nI w8) o q).2.1), ((xX1_bill (sR (sR (sR (sR (sR (sR R 89 (5 * w8) (x10 - (R 83 3))) 89 ((5 * w8) + 1) ((x10 - (R 83 3)) * (R 83 2))) 89 ((5 * w8) + 3) (R 83 2)) 88 ((5 * w8) + 2) (R 88 ((5 * w8) + 2))) 83 3 ((R 83 3) + (x10 - (R 83 3)))) 83 4 ((R 83 4) + ((x10 - (R 83 3)) * (R 83 2)))) F (nI w8) o q).2.2)) else ((0 : Int32), ((xX1_bill (sR (sR (sR (sR (sR (sR R 89 (5 * w8) (x10 - (R 83 3))) 89 ((5 * w8) + 1) ((x10 - (R 83 3)) * (R 83 2))) 89 ((5 * w8) + 3) (R 83 2)) 88 ((5 * w8) + 2) (R 88 ((5 * w8) + 2))) 83 3 ((R 83 3) + (x10 - (R 83 3)))) 83 4 ((R 83 4) + ((x10 - (R 83 3)) * (R 83 2)))) F (nI w8) o q).2.1), ((xX1_bill (sR (sR (sR (sR (sR (sR R 89 (5 * w8) (x10 - (R 83 3))) 89 ((5 * w8) + 1) ((x10 - (R 83 3)) * (R 83 2))) 89 ((5 * w8) + 3) (R 83 2)) 88 ((5 * w8) + 2) (R 88 ((5 * w8) + 2))) 83 3 ((R 83 3) + (x10 - (R 83 3)))) 83 4 ((R 83 4) + ((x10 - (R 83 3)) * (R 83 2)))) F (nI w8) o q).2.2))) else (if ((xX1_bill (sR (sR (sR (sR (sR (sR R 89 (5 * w8) (x10 - (R 83 3))) 89 ((5 * w8) + 1) ((x10 - (R 83 3)) * (R 83 2))) 89 ((5 * w8) + 3) (R 83 2)) 88 ((5 * w8) + 2) (x10 - (R 83 3))) 83 3 ((R 83 3) + (x10 - (R 83 3)))) 83 4 ((R 83 4) + ((x10 - (R 83 3)) * (R 83 2)))) F (nI w8) o q).1) = (x10 - (R 83 3)) then ((1 : Int32), ((xX1_bill (sR (sR (sR (sR (sR (sR R 89 (5 * w8) (x10 - (R 83 3))) 89 ((5 * w8) + 1) ((x10 - (R 83 3)) * (R 83 2))) 89 ((5 * w8) + 3) (R 83 2)) 88 ((5 * w8) + 2) (x10 - (R 83 3))) 83 3 ((R 83 3) + (x10 - (R 83 3)))) 83 4 ((R 83 4) + ((x10 - (R 83 3)) * (R 83 2)))) F (nI w8) o q).2.1), ((xX1_bill (sR (sR (sR (sR (sR (sR R 89 (5 * w8) (x10 - (R 83 3))) 89 ((5 * w8) + 1) ((x10 - (R 83 3)) * (R 83 2))) 89 ((5 * w8) + 3) (R 83 2)) 88 ((5 * w8) + 2) (x10 - (R 83 3))) 83 3 ((R 83 3) + (x10 - (R 83 3)))) 83 4 ((R 83 4) + ((x10 - (R 83 3)) * (R 83 2)))) F (nI w8) o q).2.2)) else ((0 : Int32), ((xX1_bill (sR (sR (sR (sR (sR (sR R 89 (5 * w8) (x10 - (R 83 3))) 89 ((5 * w8) + 1) ((x10 - (R 83 3)) * (R 83 2))) 89 ((5 * w8) + 3) (R 83 2)) 88 ((5 * w8) + 2) (x10 - (R 83 3))) 83 3 ((R 83 3) + (x10 - (R 83 3)))) 83 4 ((R 83 4) + ((x10 - (R 83 3)) * (R 83 2)))) F (nI w8) o q).2.1), ((xX1_bill (sR (sR (sR (sR (sR (sR R 89 (5 * w8) (x10 - (R 83 3))) 89 ((5 * w8) + 1) ((x10 - (R 83 3)) * (R 83 2))) 89 ((5 * w8) + 3) (R 83 2)) 88 ((5 * w8) + 2) (x10 - (R 83 3))) 83 3 ((R 83 3) + (x10 - (R 83 3)))) 83 4 ((R 83 4) + ((x10 - (R 83 3)) * (R 83 2)))) F (nI w8) o q).2.2)))) else (if ((xX1_bill (sR (sR (sR (sR (sR (sR R 89 (5 * w8) (0 : Int32)) 89 ((5 * w8) + 1) ((0 : Int32) * (R 83 2))) 89 ((5 * w8) + 3) (R 83 2)) 88 ((5 * w8) + 2) (R 88 ((5 * w8) + 2))) 83 3 ((R 83 3) + (0 : Int32))) 83 4 ((R 83 4) + ((0 : Int32) * (R 83 2)))) F (nI w8) o q).1) = (0 : Int32) then ((1 : Int32), ((xX1_bill (sR (sR (sR (sR (sR (sR R 89 (5 * w8) (0 : Int32)) 89 ((5 * w8) + 1) ((0 : Int32) * (R 83 2))) 89 ((5 * w8) + 3) (R 83 2)) 88 ((5 * w8) + 2) (R 88 ((5 * w8) + 2))) 83 3 ((R 83 3) + (0 : Int32))) 83 4 ((R 83 4) + ((0 : Int32) * (R 83 2)))) F (nI w8) o q).2.1), ((xX1_bill (sR (sR (sR (sR (sR (sR R 89 (5 * w8) (0 : Int32)) 89 ((5 * w8) + 1) ((0 : Int32) * (R 83 2))) 89 ((5 * w8) + 3) (R 83 2)) 88 ((5 * w8) + 2) (R 88 ((5 * w8) + 2))) 83 3 ((R 83 3) + (0 : Int32))) 83 4 ((R 83 4) + ((0 : Int32) * (R 83 2)))) F (nI w8) o q).2.2)) else ((0 : Int32), ((xX1_bill (sR (sR (sR (sR (sR (sR R 89 (5 * w8) (0 : Int32)) 89 ((5 * w8) + 1) ((0 : Int32) * (R 83 2))) 89 ((5 * w8) + 3) (R 83 2)) 88 ((5 * w8) + 2) (R 88 ((5 * w8) + 2))) 83 3 ((R 83 3) + (0 : Int32))) 83 4 ((R 83 4) + ((0 : Int32) * (R 83 2)))) F (nI w8) o q).2.1), ((xX1_bill (sR (sR (sR (sR (sR (sR R 89 (5 * w8) (0 : Int32)) 89 ((5 * w8) + 1) ((0 : Int32) * (R 83 2))) 89 ((5 * w8) + 3) (R 83 2)) 88 ((5 * w8) + 2) (R 88 ((5 * w8) + 2))) 83 3 ((R 83 3) + (0 : Int32))) 83 4 ((R 83 4) + ((0 : Int32) * (R 83 2)))) F (nI w8) o q).2.2))))) := rfl
theorem hL_clerk_76_s (R F : Nat → Nat → Int32) (w8 : Nat) (p9 : Int32) (kw : Nat) (o : Nat) (q : Nat) (n : Nat) (k : Nat) (x10 : Int32) : hL_clerk_76 R F w8 p9 kw o q (n + 1) k x10 = (hL_clerk_76 R F w8 p9 kw o q n (k + 1) (x10 + (((xL_gets (R 83) (R 88) (nI k) 0 (-1 : Int32) kw) + (R 84 k)) - (R 86 k)))) := rfl
def cutL_clerk_44 (R F : Nat → Nat → Int32) (w8 : Nat) (p9 : Int32) (kw : Nat) (o : Nat) (q : Nat) : Int32 × (Nat → Nat → Int32) × (Nat → Nat → Int32) :=
  (hL_clerk_76 R F w8 p9 kw o q 24 0 (0 : Int32))
def xL_clerk (R F : Nat → Nat → Int32) (w8 : Nat) (p9 : Int32) (kw : Nat) (o : Nat) (q : Nat) : Int32 × (Nat → Nat → Int32) × (Nat → Nat → Int32) :=
  (if p9 = (0 : Int32) then (if (0 : Int32) ≤ (R 88 ((5 * w8) + 1)) then (if ((xX1_complain R F (nI w8) o q).1) = (-100002 : Int32) then ((1 : Int32), ((xX1_complain R F (nI w8) o q).2.1), ((xX1_complain R F (nI w8) o q).2.2)) else ((0 : Int32), ((xX1_complain R F (nI w8) o q).2.1), ((xX1_complain R F (nI w8) o q).2.2))) else (if (R 89 (5 * w8)) < (0 : Int32) then (if ((xX1_complain R F (nI w8) o q).1) = (-100002 : Int32) then ((1 : Int32), ((xX1_complain R F (nI w8) o q).2.1), ((xX1_complain R F (nI w8) o q).2.2)) else ((0 : Int32), ((xX1_complain R F (nI w8) o q).2.1), ((xX1_complain R F (nI w8) o q).2.2))) else (if (R 89 ((5 * w8) + 4)) = (1 : Int32) then (if ((xX1_complain R F (nI w8) o q).1) = (-100002 : Int32) then ((1 : Int32), ((xX1_complain R F (nI w8) o q).2.1), ((xX1_complain R F (nI w8) o q).2.2)) else ((0 : Int32), ((xX1_complain R F (nI w8) o q).2.1), ((xX1_complain R F (nI w8) o q).2.2))) else (cutL_clerk_306 R F w8 p9 kw o q)))) else (if (R 88 ((5 * w8) + 1)) < (0 : Int32) then (if ((xX1_bill R F (nI w8) o q).1) = (-100002 : Int32) then ((1 : Int32), ((xX1_bill R F (nI w8) o q).2.1), ((xX1_bill R F (nI w8) o q).2.2)) else ((0 : Int32), ((xX1_bill R F (nI w8) o q).2.1), ((xX1_bill R F (nI w8) o q).2.2))) else (if (R 89 (5 * w8)) < (0 : Int32) then (cutL_clerk_44 R F w8 p9 kw o q) else (if ((xX1_bill R F (nI w8) o q).1) = (-100002 : Int32) then ((1 : Int32), ((xX1_bill R F (nI w8) o q).2.1), ((xX1_bill R F (nI w8) o q).2.2)) else ((0 : Int32), ((xX1_bill R F (nI w8) o q).2.1), ((xX1_bill R F (nI w8) o q).2.2))))))
set_option maxHeartbeats 4000000 in
set_option maxRecDepth 100000 in
theorem mL_clerk (l : Launch) (D : va_G) (cI cS : ClassId) (ad : Nat → Nat) (hI : Inj ad) (R F : Nat → Nat → Int32) (w8 : Nat) (p9 : Int32) (kw : Nat) (o : Nat) (q : Nat) (hk : w8 < kw) (hkw : kw ≤ 8) (hW : R 83 1 = nI kw) (ho : o < 5) (hq : q ≤ 5) (hF0 : F 0 0 = nI o) (hF1 : F 0 1 = nI q) : Met l yL_clerk wsL_clerk ({ frames := 7, cells := 0, slots := 0, locals := 162 }) (PW D cI cS ad R F [.ref (ad 0), .ref (ad 83), .ref (ad 84), .ref (ad 86), .ref (ad 87), .ref (ad 88), .ref (ad 89), .int (nI w8), .int p9]) (QI D cI cS ad ((xL_clerk R F w8 p9 kw o q).1) ((xL_clerk R F w8 p9 kw o q).2.1) ((xL_clerk R F w8 p9 kw o q).2.2)) 0 0 (AA ad) := by
  refine Met.ofW (cc := cL_clerk) (maxL := 12) (ret := (some .boolean)) (by decide) rfl ?_
  intro p e s m args below meth c s₁ B hml hv
  obtain ⟨rfl, hP, hK⟩ := hv
  have hx := B.exec
  have hb := B.bytes
  have hr := B.returns
  have hts := atoms_spec (ws := wsL_clerk) B.pre
  have hown : s.vm.findClass RL = some m.cls := findClass_of_methodNamed B.named
  have hlocks := B.notSynchronized
  have hS : va_S (AA ad) s.heap s.heap [] := va_S.rf
  have hl := lv_entry ([.ref (ad 0), .ref (ad 83), .ref (ad 84), .ref (ad 86), .ref (ad 87), .ref (ad 88), .ref (ad 89), .int (nI w8), .int p9]) (n := 12) (Nat.le_of_ble_eq_true rfl)
  rw [lg_entry_eq]
  generalize (lg_sl ([.ref (ad 0), .ref (ad 83), .ref (ad 84), .ref (ad 86), .ref (ad 87), .ref (ad 88), .ref (ad 89), .int (nI w8), .int p9]) ++ List.replicate (12 - (lg_sl ([.ref (ad 0), .ref (ad 83), .ref (ad 84), .ref (ad 86), .ref (ad 87), .ref (ad 88), .ref (ad 89), .int (nI w8), .int p9])).length) Slot.unset).toArray = ls at hl ⊢
  have hl : lv_has ls 12 [(0, .ref (ad 0)), (1, .ref (ad 83)), (2, .ref (ad 84)), (3, .ref (ad 86)), (4, .ref (ad 87)), (5, .ref (ad 88)), (6, .ref (ad 89)), (7, .int (nI w8)), (8, .int p9)] := hl
  have lk33 := hts (.constant RL 33 (-100002)) (by decide +kernel)
  refine lv_iload hx hb dL_clerk_0 (lv_at hl 8 rfl) ?_
  refine lv_if_eq (tgt := 254) hx hb dL_clerk_2 (by decide) (fun c_2 => ?_) (fun c_2 => ?_)
  · refine lv_aload hx hb dL_clerk_254 (lv_at hl 5 rfl) ?_
    refine lv_iconst (v := 5) hx hb dL_clerk_256 (by decide) ?_
    refine lv_iload hx hb dL_clerk_257 (lv_at hl 7 rfl) ?_
    refine lv_imul hx hb dL_clerk_259 ?_
    refine q_top (y := (nI (5 * w8))) (pk_mul 5 w8) ?_
    refine lv_iconst (v := 1) hx hb dL_clerk_260 (by decide) ?_
    refine lv_iadd hx hb dL_clerk_261 ?_
    refine q_top (y := (nI ((5 * w8) + 1))) (nI_add (5 * w8) 1) ?_
    refine q_ildN hx hb hK hP 88 40 (ar_88) ((5 * w8) + 1) dL_clerk_262 rfl (by omega) (by decide) ?_
    refine lv_if_ge (tgt := 289) hx hb dL_clerk_263 (by decide) (fun c_263 => ?_) (fun c_263 => ?_)
    · refine lv_aload_n hx hb dL_clerk_289 rfl (lv_at hl 0 rfl) ?_
      refine lv_iload hx hb dL_clerk_290 (lv_at hl 7 rfl) ?_
      refine q_callI (va_runV (As := [.int (nI w8)]) (rest := []) ⟨hx, hb, hml, hown, hts⟩ (mX1_complain l D cI cS ad hI R F (nI w8) o q ho hq hF0 hF1) (cwV 1 hts gL_clerk_X1_complain rfl rfl rfl (by decide +kernel) ⟨Nat.le_of_ble_eq_true rfl, Nat.le_of_ble_eq_true rfl⟩) (PW_preV (i := 0) (by decide) CC_0 rfl rfl hK hP) rfl rfl hl.1 rfl (lv_room (Nat.le_of_ble_eq_true rfl)) dL_clerk_292 ⟨Nat.zero_le _, Nat.zero_le _⟩) hS (fun H locs hP hS => ?_)
      refine lv_ldc (v := -100002) hx hb hown lk33 dL_clerk_295 ?_
      refine lv_icmp_ne (tgt := 304) hx hb dL_clerk_297 (by decide) (fun c_297 => ?_) (fun c_297 => ?_)
      · refine lv_iconst (v := 0) hx hb dL_clerk_304 (by decide) ?_
        have hX : (xL_clerk R F w8 p9 kw o q) = ((0 : Int32), ((xX1_complain R F (nI w8) o q).2.1), ((xX1_complain R F (nI w8) o q).2.2)) := by unfold xL_clerk; rw [if_pos c_2, if_pos c_263, if_neg c_297]
        exact W.zret (v := (0 : Int32)) hx hb hr rfl (fun t ht hW => ⟨by rw [hX], by rw [hX, ht]; with_reducible exact hP, hS.F ht⟩) hS.2.2 dL_clerk_305
      · refine lv_iconst (v := 1) hx hb dL_clerk_300 (by decide) ?_
        refine lv_goto (tgt := 305) hx hb dL_clerk_301 (by decide) ?_
        have hX : (xL_clerk R F w8 p9 kw o q) = ((1 : Int32), ((xX1_complain R F (nI w8) o q).2.1), ((xX1_complain R F (nI w8) o q).2.2)) := by unfold xL_clerk; rw [if_pos c_2, if_pos c_263, if_pos c_297]
        exact W.zret (v := (1 : Int32)) hx hb hr rfl (fun t ht hW => ⟨by rw [hX], by rw [hX, ht]; with_reducible exact hP, hS.F ht⟩) hS.2.2 dL_clerk_305
    · refine lv_aload hx hb dL_clerk_266 (lv_at hl 6 rfl) ?_
      refine lv_iconst (v := 5) hx hb dL_clerk_268 (by decide) ?_
      refine lv_iload hx hb dL_clerk_269 (lv_at hl 7 rfl) ?_
      refine lv_imul hx hb dL_clerk_271 ?_
      refine q_top (y := (nI (5 * w8))) (pk_mul 5 w8) ?_
      refine q_ildN hx hb hK hP 89 40 (ar_89) (5 * w8) dL_clerk_272 rfl (by omega) (by decide) ?_
      refine lv_if_lt (tgt := 289) hx hb dL_clerk_273 (by decide) (fun c_273 => ?_) (fun c_273 => ?_)
      · refine lv_aload_n hx hb dL_clerk_289 rfl (lv_at hl 0 rfl) ?_
        refine lv_iload hx hb dL_clerk_290 (lv_at hl 7 rfl) ?_
        refine q_callI (va_runV (As := [.int (nI w8)]) (rest := []) ⟨hx, hb, hml, hown, hts⟩ (mX1_complain l D cI cS ad hI R F (nI w8) o q ho hq hF0 hF1) (cwV 1 hts gL_clerk_X1_complain rfl rfl rfl (by decide +kernel) ⟨Nat.le_of_ble_eq_true rfl, Nat.le_of_ble_eq_true rfl⟩) (PW_preV (i := 0) (by decide) CC_0 rfl rfl hK hP) rfl rfl hl.1 rfl (lv_room (Nat.le_of_ble_eq_true rfl)) dL_clerk_292 ⟨Nat.zero_le _, Nat.zero_le _⟩) hS (fun H locs hP hS => ?_)
        refine lv_ldc (v := -100002) hx hb hown lk33 dL_clerk_295 ?_
        refine lv_icmp_ne (tgt := 304) hx hb dL_clerk_297 (by decide) (fun c_297 => ?_) (fun c_297 => ?_)
        · refine lv_iconst (v := 0) hx hb dL_clerk_304 (by decide) ?_
          have hX : (xL_clerk R F w8 p9 kw o q) = ((0 : Int32), ((xX1_complain R F (nI w8) o q).2.1), ((xX1_complain R F (nI w8) o q).2.2)) := by unfold xL_clerk; rw [if_pos c_2, if_neg c_263, if_pos c_273, if_neg c_297]
          exact W.zret (v := (0 : Int32)) hx hb hr rfl (fun t ht hW => ⟨by rw [hX], by rw [hX, ht]; with_reducible exact hP, hS.F ht⟩) hS.2.2 dL_clerk_305
        · refine lv_iconst (v := 1) hx hb dL_clerk_300 (by decide) ?_
          refine lv_goto (tgt := 305) hx hb dL_clerk_301 (by decide) ?_
          have hX : (xL_clerk R F w8 p9 kw o q) = ((1 : Int32), ((xX1_complain R F (nI w8) o q).2.1), ((xX1_complain R F (nI w8) o q).2.2)) := by unfold xL_clerk; rw [if_pos c_2, if_neg c_263, if_pos c_273, if_pos c_297]
          exact W.zret (v := (1 : Int32)) hx hb hr rfl (fun t ht hW => ⟨by rw [hX], by rw [hX, ht]; with_reducible exact hP, hS.F ht⟩) hS.2.2 dL_clerk_305
      · refine lv_aload hx hb dL_clerk_276 (lv_at hl 6 rfl) ?_
        refine lv_iconst (v := 5) hx hb dL_clerk_278 (by decide) ?_
        refine lv_iload hx hb dL_clerk_279 (lv_at hl 7 rfl) ?_
        refine lv_imul hx hb dL_clerk_281 ?_
        refine q_top (y := (nI (5 * w8))) (pk_mul 5 w8) ?_
        refine lv_iconst (v := 4) hx hb dL_clerk_282 (by decide) ?_
        refine lv_iadd hx hb dL_clerk_283 ?_
        refine q_top (y := (nI ((5 * w8) + 4))) (nI_add (5 * w8) 4) ?_
        refine q_ildN hx hb hK hP 89 40 (ar_89) ((5 * w8) + 4) dL_clerk_284 rfl (by omega) (by decide) ?_
        refine lv_iconst (v := 1) hx hb dL_clerk_285 (by decide) ?_
        refine lv_icmp_ne (tgt := 306) hx hb dL_clerk_286 (by decide) (fun c_286 => ?_) (fun c_286 => ?_)
        · refine lv_aload hx hb dL_clerk_306 (lv_at hl 6 rfl) ?_
          refine lv_iconst (v := 5) hx hb dL_clerk_308 (by decide) ?_
          refine lv_iload hx hb dL_clerk_309 (lv_at hl 7 rfl) ?_
          refine lv_imul hx hb dL_clerk_311 ?_
          refine q_top (y := (nI (5 * w8))) (pk_mul 5 w8) ?_
          refine q_ildN hx hb hK hP 89 40 (ar_89) (5 * w8) dL_clerk_312 rfl (by omega) (by decide) ?_
          refine lv_aload hx hb dL_clerk_313 (lv_at hl 5 rfl) ?_
          refine lv_iconst (v := 5) hx hb dL_clerk_315 (by decide) ?_
          refine lv_iload hx hb dL_clerk_316 (lv_at hl 7 rfl) ?_
          refine lv_imul hx hb dL_clerk_318 ?_
          refine q_top (y := (nI (5 * w8))) (pk_mul 5 w8) ?_
          refine q_ildN hx hb hK hP 88 40 (ar_88) (5 * w8) dL_clerk_319 rfl (by omega) (by decide) ?_
          refine lv_icmp_le (tgt := 341) hx hb dL_clerk_320 (by decide) (fun c_320 => ?_) (fun c_320 => ?_)
          · refine lv_iconst (v := 0) hx hb dL_clerk_341 (by decide) ?_
            refine lv_istore (lv' := [(9, .int (0 : Int32)), (0, .ref (ad 0)), (1, .ref (ad 83)), (2, .ref (ad 84)), (3, .ref (ad 86)), (4, .ref (ad 87)), (5, .ref (ad 88)), (6, .ref (ad 89)), (7, .int (nI w8)), (8, .int p9)]) hx hb dL_clerk_342 hl (by decide) rfl (fun ls hl => ?_)
            refine lv_aload hx hb dL_clerk_344 (lv_at hl 7 rfl) ?_
            refine lv_iconst (v := 5) hx hb dL_clerk_346 (by decide) ?_
            refine lv_iload hx hb dL_clerk_347 (lv_at hl 8 rfl) ?_
            refine lv_imul hx hb dL_clerk_349 ?_
            refine q_top (y := (nI (5 * w8))) (pk_mul 5 w8) ?_
            refine lv_iconst (v := 4) hx hb dL_clerk_350 (by decide) ?_
            refine lv_iadd hx hb dL_clerk_351 ?_
            refine q_top (y := (nI ((5 * w8) + 4))) (nI_add (5 * w8) 4) ?_
            refine lv_iconst (v := 1) hx hb dL_clerk_352 (by decide) ?_
            refine q_istN hx hb hK hI hP hS 89 40 (ar_89) ((5 * w8) + 4) dL_clerk_353 rfl (by omega) (by decide) (fun H locs hP hS => ?_)
            have hP : WP D cI cS ad (sR R 89 ((5 * w8) + 4) (1 : Int32)) F H := hP
            refine lv_aload hx hb dL_clerk_354 (lv_at hl 7 rfl) ?_
            refine lv_iconst (v := 5) hx hb dL_clerk_356 (by decide) ?_
            refine lv_iload hx hb dL_clerk_357 (lv_at hl 8 rfl) ?_
            refine lv_imul hx hb dL_clerk_359 ?_
            refine q_top (y := (nI (5 * w8))) (pk_mul 5 w8) ?_
            refine lv_iconst (v := 2) hx hb dL_clerk_360 (by decide) ?_
            refine lv_iadd hx hb dL_clerk_361 ?_
            refine q_top (y := (nI ((5 * w8) + 2))) (nI_add (5 * w8) 2) ?_
            refine lv_iload hx hb dL_clerk_362 (lv_at hl 0 rfl) ?_
            refine lv_aload hx hb dL_clerk_364 (lv_at hl 7 rfl) ?_
            refine lv_iconst (v := 5) hx hb dL_clerk_366 (by decide) ?_
            refine lv_iload hx hb dL_clerk_367 (lv_at hl 8 rfl) ?_
            refine lv_imul hx hb dL_clerk_369 ?_
            refine q_top (y := (nI (5 * w8))) (pk_mul 5 w8) ?_
            refine lv_iconst (v := 3) hx hb dL_clerk_370 (by decide) ?_
            refine lv_iadd hx hb dL_clerk_371 ?_
            refine q_top (y := (nI ((5 * w8) + 3))) (nI_add (5 * w8) 3) ?_
            refine q_ildN hx hb hK hP 89 40 (ar_89) ((5 * w8) + 3) dL_clerk_372 rfl (by omega) (by decide) ?_
            refine q_top (y := (R 89 ((5 * w8) + 3))) (sR_same_ne (by omega)) ?_
            refine lv_imul hx hb dL_clerk_373 ?_
            refine q_istN hx hb hK hI hP hS 89 40 (ar_89) ((5 * w8) + 2) dL_clerk_374 rfl (by omega) (by decide) (fun H locs hP hS => ?_)
            have hP : WP D cI cS ad (sR (sR R 89 ((5 * w8) + 4) (1 : Int32)) 89 ((5 * w8) + 2) ((0 : Int32) * (R 89 ((5 * w8) + 3)))) F H := hP
            refine lv_aload_n hx hb dL_clerk_375 rfl (lv_at hl 2 rfl) ?_
            refine lv_iconst (v := 3) hx hb dL_clerk_376 (by decide) ?_
            refine lv_dup2_11 hx hb dL_clerk_377 rfl rfl ?_
            refine q_ildN hx hb hK hP 83 6 (ar_83) 3 dL_clerk_378 rfl (by omega) (by decide) ?_
            refine q_top (y := (R 83 3)) ((congrFun (sR_ne (by decide) _ _) _).trans (congrFun (sR_ne (by decide) _ _) _)) ?_
            refine lv_iload hx hb dL_clerk_379 (lv_at hl 0 rfl) ?_
            refine lv_isub hx hb dL_clerk_381 ?_
            refine q_istN hx hb hK hI hP hS 83 6 (ar_83) 3 dL_clerk_382 rfl (by omega) (by decide) (fun H locs hP hS => ?_)
            have hP : WP D cI cS ad (sR (sR (sR R 89 ((5 * w8) + 4) (1 : Int32)) 89 ((5 * w8) + 2) ((0 : Int32) * (R 89 ((5 * w8) + 3)))) 83 3 ((R 83 3) - (0 : Int32))) F H := hP
            refine lv_aload_n hx hb dL_clerk_383 rfl (lv_at hl 2 rfl) ?_
            refine lv_iconst (v := 5) hx hb dL_clerk_384 (by decide) ?_
            refine lv_dup2_11 hx hb dL_clerk_385 rfl rfl ?_
            refine q_ildN hx hb hK hP 83 6 (ar_83) 5 dL_clerk_386 rfl (by omega) (by decide) ?_
            refine q_top (y := (R 83 5)) ((sR_same_ne (by omega)).trans ((congrFun (sR_ne (by decide) _ _) _).trans (congrFun (sR_ne (by decide) _ _) _))) ?_
            refine lv_aload hx hb dL_clerk_387 (lv_at hl 7 rfl) ?_
            refine lv_iconst (v := 5) hx hb dL_clerk_389 (by decide) ?_
            refine lv_iload hx hb dL_clerk_390 (lv_at hl 8 rfl) ?_
            refine lv_imul hx hb dL_clerk_392 ?_
            refine q_top (y := (nI (5 * w8))) (pk_mul 5 w8) ?_
            refine lv_iconst (v := 2) hx hb dL_clerk_393 (by decide) ?_
            refine lv_iadd hx hb dL_clerk_394 ?_
            refine q_top (y := (nI ((5 * w8) + 2))) (nI_add (5 * w8) 2) ?_
            refine q_ildN hx hb hK hP 89 40 (ar_89) ((5 * w8) + 2) dL_clerk_395 rfl (by omega) (by decide) ?_
            refine q_top (y := ((0 : Int32) * (R 89 ((5 * w8) + 3)))) ((congrFun (sR_ne (by decide) _ _) _).trans sR_same) ?_
            refine lv_iadd hx hb dL_clerk_396 ?_
            refine q_istN hx hb hK hI hP hS 83 6 (ar_83) 5 dL_clerk_397 rfl (by omega) (by decide) (fun H locs hP hS => ?_)
            have hP : WP D cI cS ad (sR (sR (sR (sR R 89 ((5 * w8) + 4) (1 : Int32)) 89 ((5 * w8) + 2) ((0 : Int32) * (R 89 ((5 * w8) + 3)))) 83 3 ((R 83 3) - (0 : Int32))) 83 5 ((R 83 5) + ((0 : Int32) * (R 89 ((5 * w8) + 3))))) F H := hP
            refine lv_aload_n hx hb dL_clerk_398 rfl (lv_at hl 1 rfl) ?_
            refine lv_iload hx hb dL_clerk_399 (lv_at hl 8 rfl) ?_
            refine q_callI (va_runV (As := [.int (nI w8)]) (rest := []) ⟨hx, hb, hml, hown, hts⟩ (mX1_complain l D cI cS ad hI (sR (sR (sR (sR R 89 ((5 * w8) + 4) (1 : Int32)) 89 ((5 * w8) + 2) ((0 : Int32) * (R 89 ((5 * w8) + 3)))) 83 3 ((R 83 3) - (0 : Int32))) 83 5 ((R 83 5) + ((0 : Int32) * (R 89 ((5 * w8) + 3))))) F (nI w8) o q ho hq hF0 hF1) (cwV 1 hts gL_clerk_X1_complain rfl rfl rfl (by decide +kernel) ⟨Nat.le_of_ble_eq_true rfl, Nat.le_of_ble_eq_true rfl⟩) (PW_preV (i := 0) (by decide) CC_0 rfl rfl hK hP) rfl rfl hl.1 rfl (lv_room (Nat.le_of_ble_eq_true rfl)) dL_clerk_401 ⟨Nat.zero_le _, Nat.zero_le _⟩) hS (fun H locs hP hS => ?_)
            refine lv_aload hx hb dL_clerk_404 (lv_at hl 7 rfl) ?_
            refine lv_iconst (v := 5) hx hb dL_clerk_406 (by decide) ?_
            refine lv_iload hx hb dL_clerk_407 (lv_at hl 8 rfl) ?_
            refine lv_imul hx hb dL_clerk_409 ?_
            refine q_top (y := (nI (5 * w8))) (pk_mul 5 w8) ?_
            refine lv_iconst (v := 2) hx hb dL_clerk_410 (by decide) ?_
            refine lv_iadd hx hb dL_clerk_411 ?_
            refine q_top (y := (nI ((5 * w8) + 2))) (nI_add (5 * w8) 2) ?_
            refine q_ildN hx hb hK hP 89 40 (ar_89) ((5 * w8) + 2) dL_clerk_412 rfl (by omega) (by decide) ?_
            refine lv_icmp_ne (tgt := 420) hx hb dL_clerk_413 (by decide) (fun c_413 => ?_) (fun c_413 => ?_)
            · refine lv_iconst (v := 0) hx hb dL_clerk_420 (by decide) ?_
              have hX : (xL_clerk R F w8 p9 kw o q) = ((0 : Int32), ((xX1_complain (sR (sR (sR (sR R 89 ((5 * w8) + 4) (1 : Int32)) 89 ((5 * w8) + 2) ((0 : Int32) * (R 89 ((5 * w8) + 3)))) 83 3 ((R 83 3) - (0 : Int32))) 83 5 ((R 83 5) + ((0 : Int32) * (R 89 ((5 * w8) + 3))))) F (nI w8) o q).2.1), ((xX1_complain (sR (sR (sR (sR R 89 ((5 * w8) + 4) (1 : Int32)) 89 ((5 * w8) + 2) ((0 : Int32) * (R 89 ((5 * w8) + 3)))) 83 3 ((R 83 3) - (0 : Int32))) 83 5 ((R 83 5) + ((0 : Int32) * (R 89 ((5 * w8) + 3))))) F (nI w8) o q).2.2)) := by unfold xL_clerk; rw [if_pos c_2, if_neg c_263, if_neg c_273, if_neg c_286]; unfold cutL_clerk_306; rw [if_pos c_320, if_neg c_413]
              exact W.zret (v := (0 : Int32)) hx hb hr rfl (fun t ht hW => ⟨by rw [hX], by rw [hX, ht]; with_reducible exact hP, hS.F ht⟩) hS.2.2 dL_clerk_421
            · refine lv_iconst (v := 1) hx hb dL_clerk_416 (by decide) ?_
              refine lv_goto (tgt := 421) hx hb dL_clerk_417 (by decide) ?_
              have hX : (xL_clerk R F w8 p9 kw o q) = ((1 : Int32), ((xX1_complain (sR (sR (sR (sR R 89 ((5 * w8) + 4) (1 : Int32)) 89 ((5 * w8) + 2) ((0 : Int32) * (R 89 ((5 * w8) + 3)))) 83 3 ((R 83 3) - (0 : Int32))) 83 5 ((R 83 5) + ((0 : Int32) * (R 89 ((5 * w8) + 3))))) F (nI w8) o q).2.1), ((xX1_complain (sR (sR (sR (sR R 89 ((5 * w8) + 4) (1 : Int32)) 89 ((5 * w8) + 2) ((0 : Int32) * (R 89 ((5 * w8) + 3)))) 83 3 ((R 83 3) - (0 : Int32))) 83 5 ((R 83 5) + ((0 : Int32) * (R 89 ((5 * w8) + 3))))) F (nI w8) o q).2.2)) := by unfold xL_clerk; rw [if_pos c_2, if_neg c_263, if_neg c_273, if_neg c_286]; unfold cutL_clerk_306; rw [if_pos c_320, if_pos c_413]
              exact W.zret (v := (1 : Int32)) hx hb hr rfl (fun t ht hW => ⟨by rw [hX], by rw [hX, ht]; with_reducible exact hP, hS.F ht⟩) hS.2.2 dL_clerk_421
          · refine lv_aload hx hb dL_clerk_323 (lv_at hl 6 rfl) ?_
            refine lv_iconst (v := 5) hx hb dL_clerk_325 (by decide) ?_
            refine lv_iload hx hb dL_clerk_326 (lv_at hl 7 rfl) ?_
            refine lv_imul hx hb dL_clerk_328 ?_
            refine q_top (y := (nI (5 * w8))) (pk_mul 5 w8) ?_
            refine q_ildN hx hb hK hP 89 40 (ar_89) (5 * w8) dL_clerk_329 rfl (by omega) (by decide) ?_
            refine lv_aload hx hb dL_clerk_330 (lv_at hl 5 rfl) ?_
            refine lv_iconst (v := 5) hx hb dL_clerk_332 (by decide) ?_
            refine lv_iload hx hb dL_clerk_333 (lv_at hl 7 rfl) ?_
            refine lv_imul hx hb dL_clerk_335 ?_
            refine q_top (y := (nI (5 * w8))) (pk_mul 5 w8) ?_
            refine q_ildN hx hb hK hP 88 40 (ar_88) (5 * w8) dL_clerk_336 rfl (by omega) (by decide) ?_
            refine lv_isub hx hb dL_clerk_337 ?_
            refine lv_goto (tgt := 342) hx hb dL_clerk_338 (by decide) ?_
            refine lv_istore (lv' := [(9, .int ((R 89 (5 * w8)) - (R 88 (5 * w8)))), (0, .ref (ad 0)), (1, .ref (ad 83)), (2, .ref (ad 84)), (3, .ref (ad 86)), (4, .ref (ad 87)), (5, .ref (ad 88)), (6, .ref (ad 89)), (7, .int (nI w8)), (8, .int p9)]) hx hb dL_clerk_342 hl (by decide) rfl (fun ls hl => ?_)
            refine lv_aload hx hb dL_clerk_344 (lv_at hl 7 rfl) ?_
            refine lv_iconst (v := 5) hx hb dL_clerk_346 (by decide) ?_
            refine lv_iload hx hb dL_clerk_347 (lv_at hl 8 rfl) ?_
            refine lv_imul hx hb dL_clerk_349 ?_
            refine q_top (y := (nI (5 * w8))) (pk_mul 5 w8) ?_
            refine lv_iconst (v := 4) hx hb dL_clerk_350 (by decide) ?_
            refine lv_iadd hx hb dL_clerk_351 ?_
            refine q_top (y := (nI ((5 * w8) + 4))) (nI_add (5 * w8) 4) ?_
            refine lv_iconst (v := 1) hx hb dL_clerk_352 (by decide) ?_
            refine q_istN hx hb hK hI hP hS 89 40 (ar_89) ((5 * w8) + 4) dL_clerk_353 rfl (by omega) (by decide) (fun H locs hP hS => ?_)
            have hP : WP D cI cS ad (sR R 89 ((5 * w8) + 4) (1 : Int32)) F H := hP
            refine lv_aload hx hb dL_clerk_354 (lv_at hl 7 rfl) ?_
            refine lv_iconst (v := 5) hx hb dL_clerk_356 (by decide) ?_
            refine lv_iload hx hb dL_clerk_357 (lv_at hl 8 rfl) ?_
            refine lv_imul hx hb dL_clerk_359 ?_
            refine q_top (y := (nI (5 * w8))) (pk_mul 5 w8) ?_
            refine lv_iconst (v := 2) hx hb dL_clerk_360 (by decide) ?_
            refine lv_iadd hx hb dL_clerk_361 ?_
            refine q_top (y := (nI ((5 * w8) + 2))) (nI_add (5 * w8) 2) ?_
            refine lv_iload hx hb dL_clerk_362 (lv_at hl 0 rfl) ?_
            refine lv_aload hx hb dL_clerk_364 (lv_at hl 7 rfl) ?_
            refine lv_iconst (v := 5) hx hb dL_clerk_366 (by decide) ?_
            refine lv_iload hx hb dL_clerk_367 (lv_at hl 8 rfl) ?_
            refine lv_imul hx hb dL_clerk_369 ?_
            refine q_top (y := (nI (5 * w8))) (pk_mul 5 w8) ?_
            refine lv_iconst (v := 3) hx hb dL_clerk_370 (by decide) ?_
            refine lv_iadd hx hb dL_clerk_371 ?_
            refine q_top (y := (nI ((5 * w8) + 3))) (nI_add (5 * w8) 3) ?_
            refine q_ildN hx hb hK hP 89 40 (ar_89) ((5 * w8) + 3) dL_clerk_372 rfl (by omega) (by decide) ?_
            refine q_top (y := (R 89 ((5 * w8) + 3))) (sR_same_ne (by omega)) ?_
            refine lv_imul hx hb dL_clerk_373 ?_
            refine q_istN hx hb hK hI hP hS 89 40 (ar_89) ((5 * w8) + 2) dL_clerk_374 rfl (by omega) (by decide) (fun H locs hP hS => ?_)
            have hP : WP D cI cS ad (sR (sR R 89 ((5 * w8) + 4) (1 : Int32)) 89 ((5 * w8) + 2) (((R 89 (5 * w8)) - (R 88 (5 * w8))) * (R 89 ((5 * w8) + 3)))) F H := hP
            refine lv_aload_n hx hb dL_clerk_375 rfl (lv_at hl 2 rfl) ?_
            refine lv_iconst (v := 3) hx hb dL_clerk_376 (by decide) ?_
            refine lv_dup2_11 hx hb dL_clerk_377 rfl rfl ?_
            refine q_ildN hx hb hK hP 83 6 (ar_83) 3 dL_clerk_378 rfl (by omega) (by decide) ?_
            refine q_top (y := (R 83 3)) ((congrFun (sR_ne (by decide) _ _) _).trans (congrFun (sR_ne (by decide) _ _) _)) ?_
            refine lv_iload hx hb dL_clerk_379 (lv_at hl 0 rfl) ?_
            refine lv_isub hx hb dL_clerk_381 ?_
            refine q_istN hx hb hK hI hP hS 83 6 (ar_83) 3 dL_clerk_382 rfl (by omega) (by decide) (fun H locs hP hS => ?_)
            have hP : WP D cI cS ad (sR (sR (sR R 89 ((5 * w8) + 4) (1 : Int32)) 89 ((5 * w8) + 2) (((R 89 (5 * w8)) - (R 88 (5 * w8))) * (R 89 ((5 * w8) + 3)))) 83 3 ((R 83 3) - ((R 89 (5 * w8)) - (R 88 (5 * w8))))) F H := hP
            refine lv_aload_n hx hb dL_clerk_383 rfl (lv_at hl 2 rfl) ?_
            refine lv_iconst (v := 5) hx hb dL_clerk_384 (by decide) ?_
            refine lv_dup2_11 hx hb dL_clerk_385 rfl rfl ?_
            refine q_ildN hx hb hK hP 83 6 (ar_83) 5 dL_clerk_386 rfl (by omega) (by decide) ?_
            refine q_top (y := (R 83 5)) ((sR_same_ne (by omega)).trans ((congrFun (sR_ne (by decide) _ _) _).trans (congrFun (sR_ne (by decide) _ _) _))) ?_
            refine lv_aload hx hb dL_clerk_387 (lv_at hl 7 rfl) ?_
            refine lv_iconst (v := 5) hx hb dL_clerk_389 (by decide) ?_
            refine lv_iload hx hb dL_clerk_390 (lv_at hl 8 rfl) ?_
            refine lv_imul hx hb dL_clerk_392 ?_
            refine q_top (y := (nI (5 * w8))) (pk_mul 5 w8) ?_
            refine lv_iconst (v := 2) hx hb dL_clerk_393 (by decide) ?_
            refine lv_iadd hx hb dL_clerk_394 ?_
            refine q_top (y := (nI ((5 * w8) + 2))) (nI_add (5 * w8) 2) ?_
            refine q_ildN hx hb hK hP 89 40 (ar_89) ((5 * w8) + 2) dL_clerk_395 rfl (by omega) (by decide) ?_
            refine q_top (y := (((R 89 (5 * w8)) - (R 88 (5 * w8))) * (R 89 ((5 * w8) + 3)))) ((congrFun (sR_ne (by decide) _ _) _).trans sR_same) ?_
            refine lv_iadd hx hb dL_clerk_396 ?_
            refine q_istN hx hb hK hI hP hS 83 6 (ar_83) 5 dL_clerk_397 rfl (by omega) (by decide) (fun H locs hP hS => ?_)
            have hP : WP D cI cS ad (sR (sR (sR (sR R 89 ((5 * w8) + 4) (1 : Int32)) 89 ((5 * w8) + 2) (((R 89 (5 * w8)) - (R 88 (5 * w8))) * (R 89 ((5 * w8) + 3)))) 83 3 ((R 83 3) - ((R 89 (5 * w8)) - (R 88 (5 * w8))))) 83 5 ((R 83 5) + (((R 89 (5 * w8)) - (R 88 (5 * w8))) * (R 89 ((5 * w8) + 3))))) F H := hP
            refine lv_aload_n hx hb dL_clerk_398 rfl (lv_at hl 1 rfl) ?_
            refine lv_iload hx hb dL_clerk_399 (lv_at hl 8 rfl) ?_
            refine q_callI (va_runV (As := [.int (nI w8)]) (rest := []) ⟨hx, hb, hml, hown, hts⟩ (mX1_complain l D cI cS ad hI (sR (sR (sR (sR R 89 ((5 * w8) + 4) (1 : Int32)) 89 ((5 * w8) + 2) (((R 89 (5 * w8)) - (R 88 (5 * w8))) * (R 89 ((5 * w8) + 3)))) 83 3 ((R 83 3) - ((R 89 (5 * w8)) - (R 88 (5 * w8))))) 83 5 ((R 83 5) + (((R 89 (5 * w8)) - (R 88 (5 * w8))) * (R 89 ((5 * w8) + 3))))) F (nI w8) o q ho hq hF0 hF1) (cwV 1 hts gL_clerk_X1_complain rfl rfl rfl (by decide +kernel) ⟨Nat.le_of_ble_eq_true rfl, Nat.le_of_ble_eq_true rfl⟩) (PW_preV (i := 0) (by decide) CC_0 rfl rfl hK hP) rfl rfl hl.1 rfl (lv_room (Nat.le_of_ble_eq_true rfl)) dL_clerk_401 ⟨Nat.zero_le _, Nat.zero_le _⟩) hS (fun H locs hP hS => ?_)
            refine lv_aload hx hb dL_clerk_404 (lv_at hl 7 rfl) ?_
            refine lv_iconst (v := 5) hx hb dL_clerk_406 (by decide) ?_
            refine lv_iload hx hb dL_clerk_407 (lv_at hl 8 rfl) ?_
            refine lv_imul hx hb dL_clerk_409 ?_
            refine q_top (y := (nI (5 * w8))) (pk_mul 5 w8) ?_
            refine lv_iconst (v := 2) hx hb dL_clerk_410 (by decide) ?_
            refine lv_iadd hx hb dL_clerk_411 ?_
            refine q_top (y := (nI ((5 * w8) + 2))) (nI_add (5 * w8) 2) ?_
            refine q_ildN hx hb hK hP 89 40 (ar_89) ((5 * w8) + 2) dL_clerk_412 rfl (by omega) (by decide) ?_
            refine lv_icmp_ne (tgt := 420) hx hb dL_clerk_413 (by decide) (fun c_413 => ?_) (fun c_413 => ?_)
            · refine lv_iconst (v := 0) hx hb dL_clerk_420 (by decide) ?_
              have hX : (xL_clerk R F w8 p9 kw o q) = ((0 : Int32), ((xX1_complain (sR (sR (sR (sR R 89 ((5 * w8) + 4) (1 : Int32)) 89 ((5 * w8) + 2) (((R 89 (5 * w8)) - (R 88 (5 * w8))) * (R 89 ((5 * w8) + 3)))) 83 3 ((R 83 3) - ((R 89 (5 * w8)) - (R 88 (5 * w8))))) 83 5 ((R 83 5) + (((R 89 (5 * w8)) - (R 88 (5 * w8))) * (R 89 ((5 * w8) + 3))))) F (nI w8) o q).2.1), ((xX1_complain (sR (sR (sR (sR R 89 ((5 * w8) + 4) (1 : Int32)) 89 ((5 * w8) + 2) (((R 89 (5 * w8)) - (R 88 (5 * w8))) * (R 89 ((5 * w8) + 3)))) 83 3 ((R 83 3) - ((R 89 (5 * w8)) - (R 88 (5 * w8))))) 83 5 ((R 83 5) + (((R 89 (5 * w8)) - (R 88 (5 * w8))) * (R 89 ((5 * w8) + 3))))) F (nI w8) o q).2.2)) := by unfold xL_clerk; rw [if_pos c_2, if_neg c_263, if_neg c_273, if_neg c_286]; unfold cutL_clerk_306; rw [if_neg c_320, if_neg c_413]
              exact W.zret (v := (0 : Int32)) hx hb hr rfl (fun t ht hW => ⟨by rw [hX], by rw [hX, ht]; with_reducible exact hP, hS.F ht⟩) hS.2.2 dL_clerk_421
            · refine lv_iconst (v := 1) hx hb dL_clerk_416 (by decide) ?_
              refine lv_goto (tgt := 421) hx hb dL_clerk_417 (by decide) ?_
              have hX : (xL_clerk R F w8 p9 kw o q) = ((1 : Int32), ((xX1_complain (sR (sR (sR (sR R 89 ((5 * w8) + 4) (1 : Int32)) 89 ((5 * w8) + 2) (((R 89 (5 * w8)) - (R 88 (5 * w8))) * (R 89 ((5 * w8) + 3)))) 83 3 ((R 83 3) - ((R 89 (5 * w8)) - (R 88 (5 * w8))))) 83 5 ((R 83 5) + (((R 89 (5 * w8)) - (R 88 (5 * w8))) * (R 89 ((5 * w8) + 3))))) F (nI w8) o q).2.1), ((xX1_complain (sR (sR (sR (sR R 89 ((5 * w8) + 4) (1 : Int32)) 89 ((5 * w8) + 2) (((R 89 (5 * w8)) - (R 88 (5 * w8))) * (R 89 ((5 * w8) + 3)))) 83 3 ((R 83 3) - ((R 89 (5 * w8)) - (R 88 (5 * w8))))) 83 5 ((R 83 5) + (((R 89 (5 * w8)) - (R 88 (5 * w8))) * (R 89 ((5 * w8) + 3))))) F (nI w8) o q).2.2)) := by unfold xL_clerk; rw [if_pos c_2, if_neg c_263, if_neg c_273, if_neg c_286]; unfold cutL_clerk_306; rw [if_neg c_320, if_pos c_413]
              exact W.zret (v := (1 : Int32)) hx hb hr rfl (fun t ht hW => ⟨by rw [hX], by rw [hX, ht]; with_reducible exact hP, hS.F ht⟩) hS.2.2 dL_clerk_421
        · refine lv_aload_n hx hb dL_clerk_289 rfl (lv_at hl 0 rfl) ?_
          refine lv_iload hx hb dL_clerk_290 (lv_at hl 7 rfl) ?_
          refine q_callI (va_runV (As := [.int (nI w8)]) (rest := []) ⟨hx, hb, hml, hown, hts⟩ (mX1_complain l D cI cS ad hI R F (nI w8) o q ho hq hF0 hF1) (cwV 1 hts gL_clerk_X1_complain rfl rfl rfl (by decide +kernel) ⟨Nat.le_of_ble_eq_true rfl, Nat.le_of_ble_eq_true rfl⟩) (PW_preV (i := 0) (by decide) CC_0 rfl rfl hK hP) rfl rfl hl.1 rfl (lv_room (Nat.le_of_ble_eq_true rfl)) dL_clerk_292 ⟨Nat.zero_le _, Nat.zero_le _⟩) hS (fun H locs hP hS => ?_)
          refine lv_ldc (v := -100002) hx hb hown lk33 dL_clerk_295 ?_
          refine lv_icmp_ne (tgt := 304) hx hb dL_clerk_297 (by decide) (fun c_297 => ?_) (fun c_297 => ?_)
          · refine lv_iconst (v := 0) hx hb dL_clerk_304 (by decide) ?_
            have hX : (xL_clerk R F w8 p9 kw o q) = ((0 : Int32), ((xX1_complain R F (nI w8) o q).2.1), ((xX1_complain R F (nI w8) o q).2.2)) := by unfold xL_clerk; rw [if_pos c_2, if_neg c_263, if_neg c_273, if_pos c_286, if_neg c_297]
            exact W.zret (v := (0 : Int32)) hx hb hr rfl (fun t ht hW => ⟨by rw [hX], by rw [hX, ht]; with_reducible exact hP, hS.F ht⟩) hS.2.2 dL_clerk_305
          · refine lv_iconst (v := 1) hx hb dL_clerk_300 (by decide) ?_
            refine lv_goto (tgt := 305) hx hb dL_clerk_301 (by decide) ?_
            have hX : (xL_clerk R F w8 p9 kw o q) = ((1 : Int32), ((xX1_complain R F (nI w8) o q).2.1), ((xX1_complain R F (nI w8) o q).2.2)) := by unfold xL_clerk; rw [if_pos c_2, if_neg c_263, if_neg c_273, if_pos c_286, if_pos c_297]
            exact W.zret (v := (1 : Int32)) hx hb hr rfl (fun t ht hW => ⟨by rw [hX], by rw [hX, ht]; with_reducible exact hP, hS.F ht⟩) hS.2.2 dL_clerk_305
  · refine lv_aload hx hb dL_clerk_5 (lv_at hl 5 rfl) ?_
    refine lv_iconst (v := 5) hx hb dL_clerk_7 (by decide) ?_
    refine lv_iload hx hb dL_clerk_8 (lv_at hl 7 rfl) ?_
    refine lv_imul hx hb dL_clerk_10 ?_
    refine q_top (y := (nI (5 * w8))) (pk_mul 5 w8) ?_
    refine lv_iconst (v := 1) hx hb dL_clerk_11 (by decide) ?_
    refine lv_iadd hx hb dL_clerk_12 ?_
    refine q_top (y := (nI ((5 * w8) + 1))) (nI_add (5 * w8) 1) ?_
    refine q_ildN hx hb hK hP 88 40 (ar_88) ((5 * w8) + 1) dL_clerk_13 rfl (by omega) (by decide) ?_
    refine lv_if_lt (tgt := 27) hx hb dL_clerk_14 (by decide) (fun c_14 => ?_) (fun c_14 => ?_)
    · refine lv_aload_n hx hb dL_clerk_27 rfl (lv_at hl 0 rfl) ?_
      refine lv_iload hx hb dL_clerk_28 (lv_at hl 7 rfl) ?_
      refine q_callI (va_runV (As := [.int (nI w8)]) (rest := []) ⟨hx, hb, hml, hown, hts⟩ (mX1_bill l D cI cS ad hI R F (nI w8) o q ho hq hF0 hF1) (cwV 1 hts gL_clerk_X1_bill rfl rfl rfl (by decide +kernel) ⟨Nat.le_of_ble_eq_true rfl, Nat.le_of_ble_eq_true rfl⟩) (PW_preV (i := 0) (by decide) CC_0 rfl rfl hK hP) rfl rfl hl.1 rfl (lv_room (Nat.le_of_ble_eq_true rfl)) dL_clerk_30 ⟨Nat.zero_le _, Nat.zero_le _⟩) hS (fun H locs hP hS => ?_)
      refine lv_ldc (v := -100002) hx hb hown lk33 dL_clerk_33 ?_
      refine lv_icmp_ne (tgt := 42) hx hb dL_clerk_35 (by decide) (fun c_35 => ?_) (fun c_35 => ?_)
      · refine lv_iconst (v := 0) hx hb dL_clerk_42 (by decide) ?_
        have hX : (xL_clerk R F w8 p9 kw o q) = ((0 : Int32), ((xX1_bill R F (nI w8) o q).2.1), ((xX1_bill R F (nI w8) o q).2.2)) := by unfold xL_clerk; rw [if_neg c_2, if_pos c_14, if_neg c_35]
        exact W.zret (v := (0 : Int32)) hx hb hr rfl (fun t ht hW => ⟨by rw [hX], by rw [hX, ht]; with_reducible exact hP, hS.F ht⟩) hS.2.2 dL_clerk_43
      · refine lv_iconst (v := 1) hx hb dL_clerk_38 (by decide) ?_
        refine lv_goto (tgt := 43) hx hb dL_clerk_39 (by decide) ?_
        have hX : (xL_clerk R F w8 p9 kw o q) = ((1 : Int32), ((xX1_bill R F (nI w8) o q).2.1), ((xX1_bill R F (nI w8) o q).2.2)) := by unfold xL_clerk; rw [if_neg c_2, if_pos c_14, if_pos c_35]
        exact W.zret (v := (1 : Int32)) hx hb hr rfl (fun t ht hW => ⟨by rw [hX], by rw [hX, ht]; with_reducible exact hP, hS.F ht⟩) hS.2.2 dL_clerk_43
    · refine lv_aload hx hb dL_clerk_17 (lv_at hl 6 rfl) ?_
      refine lv_iconst (v := 5) hx hb dL_clerk_19 (by decide) ?_
      refine lv_iload hx hb dL_clerk_20 (lv_at hl 7 rfl) ?_
      refine lv_imul hx hb dL_clerk_22 ?_
      refine q_top (y := (nI (5 * w8))) (pk_mul 5 w8) ?_
      refine q_ildN hx hb hK hP 89 40 (ar_89) (5 * w8) dL_clerk_23 rfl (by omega) (by decide) ?_
      refine lv_if_lt (tgt := 44) hx hb dL_clerk_24 (by decide) (fun c_24 => ?_) (fun c_24 => ?_)
      · refine lv_aload_n hx hb dL_clerk_44 rfl (lv_at hl 1 rfl) ?_
        refine lv_aload_n hx hb dL_clerk_45 rfl (lv_at hl 2 rfl) ?_
        refine lv_aload_n hx hb dL_clerk_46 rfl (lv_at hl 3 rfl) ?_
        refine lv_aload hx hb dL_clerk_47 (lv_at hl 5 rfl) ?_
        refine lv_iload hx hb dL_clerk_49 (lv_at hl 7 rfl) ?_
        refine q_callS (va_runS (As := [.ref (ad 83), .ref (ad 84), .ref (ad 86), .ref (ad 88), .int (nI w8)]) (rest := []) ⟨hx, hb, hml, hown, hts⟩ (mL_estimate l D cI cS ad hI R F w8 kw (by omega) hkw hW) (va_cwS 5 hts gL_clerk_L_estimate rfl rfl rfl (by decide +kernel) ⟨Nat.le_of_ble_eq_true rfl, Nat.le_of_ble_eq_true rfl⟩) (PW_preS hK hP) rfl rfl hl.1 rfl (lv_room (Nat.le_of_ble_eq_true rfl)) dL_clerk_51 ⟨Nat.zero_le _, Nat.zero_le _⟩) ?_
        refine lv_aload_n hx hb dL_clerk_54 rfl (lv_at hl 1 rfl) ?_
        refine lv_aload hx hb dL_clerk_55 (lv_at hl 4 rfl) ?_
        refine lv_aload hx hb dL_clerk_57 (lv_at hl 5 rfl) ?_
        refine lv_iload hx hb dL_clerk_59 (lv_at hl 7 rfl) ?_
        refine q_callS (va_runS (As := [.ref (ad 83), .ref (ad 87), .ref (ad 88), .int (nI w8)]) (rest := [.int (xL_estimate (R 83) (R 84) (R 86) (R 88) w8 kw)]) ⟨hx, hb, hml, hown, hts⟩ (mL_certainty l D cI cS ad hI R F w8 (by omega)) (va_cwS 4 hts gL_clerk_L_certainty rfl rfl rfl (by decide +kernel) ⟨Nat.le_of_ble_eq_true rfl, Nat.le_of_ble_eq_true rfl⟩) (PW_preS hK hP) rfl rfl hl.1 rfl (lv_room (Nat.le_of_ble_eq_true rfl)) dL_clerk_61 ⟨Nat.zero_le _, Nat.zero_le _⟩) ?_
        refine lv_imul hx hb dL_clerk_64 ?_
        refine lv_bipush (v := 100) hx hb dL_clerk_65 (by decide) ?_
        refine lv_idiv hx hb dL_clerk_67 (by decide) ?_
        refine lv_istore (lv' := [(9, .int (((xL_estimate (R 83) (R 84) (R 86) (R 88) w8 kw) * (xL_certainty (R 83) (R 87) (R 88) w8)) / (100 : Int32))), (0, .ref (ad 0)), (1, .ref (ad 83)), (2, .ref (ad 84)), (3, .ref (ad 86)), (4, .ref (ad 87)), (5, .ref (ad 88)), (6, .ref (ad 89)), (7, .int (nI w8)), (8, .int p9)]) hx hb dL_clerk_68 hl (by decide) rfl (fun ls hl => ?_)
        refine lv_iconst (v := 0) hx hb dL_clerk_70 (by decide) ?_
        refine lv_istore (lv' := [(10, .int (0 : Int32)), (9, .int (((xL_estimate (R 83) (R 84) (R 86) (R 88) w8 kw) * (xL_certainty (R 83) (R 87) (R 88) w8)) / (100 : Int32))), (0, .ref (ad 0)), (1, .ref (ad 83)), (2, .ref (ad 84)), (3, .ref (ad 86)), (4, .ref (ad 87)), (5, .ref (ad 88)), (6, .ref (ad 89)), (7, .int (nI w8)), (8, .int p9)]) hx hb dL_clerk_71 hl (by decide) rfl (fun ls hl => ?_)
        refine lv_iconst (v := 0) hx hb dL_clerk_73 (by decide) ?_
        refine lv_istore (lv' := [(11, .int (0 : Int32)), (10, .int (0 : Int32)), (9, .int (((xL_estimate (R 83) (R 84) (R 86) (R 88) w8 kw) * (xL_certainty (R 83) (R 87) (R 88) w8)) / (100 : Int32))), (0, .ref (ad 0)), (1, .ref (ad 83)), (2, .ref (ad 84)), (3, .ref (ad 86)), (4, .ref (ad 87)), (5, .ref (ad 88)), (6, .ref (ad 89)), (7, .int (nI w8)), (8, .int p9)]) hx hb dL_clerk_74 hl (by decide) rfl (fun ls hl => ?_)
        refine q_loop (fun nn H locs ls => ∃ (k : Nat) (x10 : Int32), k + nn = 24 ∧ hL_clerk_76 R F w8 p9 kw o q nn k x10 = (xL_clerk R F w8 p9 kw o q) ∧ WP D cI cS ad R F H ∧ va_S (AA ad) s.heap H locs ∧ lv_has ls 12 [(11, .int (nI k)), (10, .int x10), (9, .int (((xL_estimate (R 83) (R 84) (R 86) (R 88) w8 kw) * (xL_certainty (R 83) (R 87) (R 88) w8)) / (100 : Int32))), (0, .ref (ad 0)), (1, .ref (ad 83)), (2, .ref (ad 84)), (3, .ref (ad 86)), (4, .ref (ad 87)), (5, .ref (ad 88)), (6, .ref (ad 89)), (7, .int (nI w8)), (8, .int p9)]) 24 ⟨0, (0 : Int32), by omega, by unfold xL_clerk; rw [if_neg c_2, if_neg c_14, if_pos c_24]; unfold cutL_clerk_44; rfl, hP, hS, lv_sub hl [0, 1, 2, 3, 4, 5, 6, 7, 8, 9, 10, 11] rfl⟩ ?_ ?_
        · intro H locs ls hz
          obtain ⟨k, x10, hkn, hsp, hP, hS, hl⟩ := hz
          refine lv_iload hx hb dL_clerk_76 (lv_at hl 0 rfl) ?_
          refine lv_bipush (v := 24) hx hb dL_clerk_78 (by decide) ?_
          refine lv_icmp_ge (tgt := 114) hx hb dL_clerk_80 (by decide) (fun c_80 => ?_) (fun c_80 => ?_)
          · refine lv_iload hx hb dL_clerk_114 (lv_at hl 1 rfl) ?_
            refine lv_aload_n hx hb dL_clerk_116 rfl (lv_at hl 4 rfl) ?_
            refine lv_iconst (v := 3) hx hb dL_clerk_117 (by decide) ?_
            refine q_ildN hx hb hK hP 83 6 (ar_83) 3 dL_clerk_118 rfl (by omega) (by decide) ?_
            refine lv_isub hx hb dL_clerk_119 ?_
            refine lv_istore (lv' := [(11, .int (x10 - (R 83 3))), (10, .int x10), (9, .int (((xL_estimate (R 83) (R 84) (R 86) (R 88) w8 kw) * (xL_certainty (R 83) (R 87) (R 88) w8)) / (100 : Int32))), (0, .ref (ad 0)), (1, .ref (ad 83)), (2, .ref (ad 84)), (3, .ref (ad 86)), (4, .ref (ad 87)), (5, .ref (ad 88)), (6, .ref (ad 89)), (7, .int (nI w8)), (8, .int p9)]) hx hb dL_clerk_120 hl (by decide) rfl (fun ls hl => ?_)
            refine lv_iload hx hb dL_clerk_122 (lv_at hl 2 rfl) ?_
            refine lv_iload hx hb dL_clerk_124 (lv_at hl 0 rfl) ?_
            refine lv_icmp_le (tgt := 134) hx hb dL_clerk_126 (by decide) (fun c_126 => ?_) (fun c_126 => ?_)
            · refine lv_iload hx hb dL_clerk_134 (lv_at hl 2 rfl) ?_
              refine lv_istore (lv' := [(9, .int (((xL_estimate (R 83) (R 84) (R 86) (R 88) w8 kw) * (xL_certainty (R 83) (R 87) (R 88) w8)) / (100 : Int32))), (11, .int (x10 - (R 83 3))), (10, .int x10), (0, .ref (ad 0)), (1, .ref (ad 83)), (2, .ref (ad 84)), (3, .ref (ad 86)), (4, .ref (ad 87)), (5, .ref (ad 88)), (6, .ref (ad 89)), (7, .int (nI w8)), (8, .int p9)]) hx hb dL_clerk_136 hl (by decide) rfl (fun ls hl => ?_)
              refine lv_iload hx hb dL_clerk_138 (lv_at hl 0 rfl) ?_
              refine lv_if_ge (tgt := 147) hx hb dL_clerk_140 (by decide) (fun c_140 => ?_) (fun c_140 => ?_)
              · refine lv_iload hx hb dL_clerk_147 (lv_at hl 0 rfl) ?_
                refine lv_istore (lv' := [(9, .int (((xL_estimate (R 83) (R 84) (R 86) (R 88) w8 kw) * (xL_certainty (R 83) (R 87) (R 88) w8)) / (100 : Int32))), (11, .int (x10 - (R 83 3))), (10, .int x10), (0, .ref (ad 0)), (1, .ref (ad 83)), (2, .ref (ad 84)), (3, .ref (ad 86)), (4, .ref (ad 87)), (5, .ref (ad 88)), (6, .ref (ad 89)), (7, .int (nI w8)), (8, .int p9)]) hx hb dL_clerk_149 hl (by decide) rfl (fun ls hl => ?_)
                refine lv_aload hx hb dL_clerk_151 (lv_at hl 9 rfl) ?_
                refine lv_iconst (v := 5) hx hb dL_clerk_153 (by decide) ?_
                refine lv_iload hx hb dL_clerk_154 (lv_at hl 10 rfl) ?_
                refine lv_imul hx hb dL_clerk_156 ?_
                refine q_top (y := (nI (5 * w8))) (pk_mul 5 w8) ?_
                refine lv_iload hx hb dL_clerk_157 (lv_at hl 0 rfl) ?_
                refine q_istN hx hb hK hI hP hS 89 40 (ar_89) (5 * w8) dL_clerk_159 rfl (by omega) (by decide) (fun H locs hP hS => ?_)
                have hP : WP D cI cS ad (sR R 89 (5 * w8) (((xL_estimate (R 83) (R 84) (R 86) (R 88) w8 kw) * (xL_certainty (R 83) (R 87) (R 88) w8)) / (100 : Int32))) F H := hP
                refine lv_aload hx hb dL_clerk_160 (lv_at hl 9 rfl) ?_
                refine lv_iconst (v := 5) hx hb dL_clerk_162 (by decide) ?_
                refine lv_iload hx hb dL_clerk_163 (lv_at hl 10 rfl) ?_
                refine lv_imul hx hb dL_clerk_165 ?_
                refine q_top (y := (nI (5 * w8))) (pk_mul 5 w8) ?_
                refine lv_iconst (v := 1) hx hb dL_clerk_166 (by decide) ?_
                refine lv_iadd hx hb dL_clerk_167 ?_
                refine q_top (y := (nI ((5 * w8) + 1))) (nI_add (5 * w8) 1) ?_
                refine lv_iload hx hb dL_clerk_168 (lv_at hl 0 rfl) ?_
                refine lv_aload_n hx hb dL_clerk_170 rfl (lv_at hl 4 rfl) ?_
                refine lv_iconst (v := 2) hx hb dL_clerk_171 (by decide) ?_
                refine q_ildN hx hb hK hP 83 6 (ar_83) 2 dL_clerk_172 rfl (by omega) (by decide) ?_
                refine q_top (y := (R 83 2)) (congrFun (sR_ne (by decide) _ _) _) ?_
                refine lv_imul hx hb dL_clerk_173 ?_
                refine q_istN hx hb hK hI hP hS 89 40 (ar_89) ((5 * w8) + 1) dL_clerk_174 rfl (by omega) (by decide) (fun H locs hP hS => ?_)
                have hP : WP D cI cS ad (sR (sR R 89 (5 * w8) (((xL_estimate (R 83) (R 84) (R 86) (R 88) w8 kw) * (xL_certainty (R 83) (R 87) (R 88) w8)) / (100 : Int32))) 89 ((5 * w8) + 1) ((((xL_estimate (R 83) (R 84) (R 86) (R 88) w8 kw) * (xL_certainty (R 83) (R 87) (R 88) w8)) / (100 : Int32)) * (R 83 2))) F H := hP
                refine lv_aload hx hb dL_clerk_175 (lv_at hl 9 rfl) ?_
                refine lv_iconst (v := 5) hx hb dL_clerk_177 (by decide) ?_
                refine lv_iload hx hb dL_clerk_178 (lv_at hl 10 rfl) ?_
                refine lv_imul hx hb dL_clerk_180 ?_
                refine q_top (y := (nI (5 * w8))) (pk_mul 5 w8) ?_
                refine lv_iconst (v := 3) hx hb dL_clerk_181 (by decide) ?_
                refine lv_iadd hx hb dL_clerk_182 ?_
                refine q_top (y := (nI ((5 * w8) + 3))) (nI_add (5 * w8) 3) ?_
                refine lv_aload_n hx hb dL_clerk_183 rfl (lv_at hl 4 rfl) ?_
                refine lv_iconst (v := 2) hx hb dL_clerk_184 (by decide) ?_
                refine q_ildN hx hb hK hP 83 6 (ar_83) 2 dL_clerk_185 rfl (by omega) (by decide) ?_
                refine q_top (y := (R 83 2)) ((congrFun (sR_ne (by decide) _ _) _).trans (congrFun (sR_ne (by decide) _ _) _)) ?_
                refine q_istN hx hb hK hI hP hS 89 40 (ar_89) ((5 * w8) + 3) dL_clerk_186 rfl (by omega) (by decide) (fun H locs hP hS => ?_)
                have hP : WP D cI cS ad (sR (sR (sR R 89 (5 * w8) (((xL_estimate (R 83) (R 84) (R 86) (R 88) w8 kw) * (xL_certainty (R 83) (R 87) (R 88) w8)) / (100 : Int32))) 89 ((5 * w8) + 1) ((((xL_estimate (R 83) (R 84) (R 86) (R 88) w8 kw) * (xL_certainty (R 83) (R 87) (R 88) w8)) / (100 : Int32)) * (R 83 2))) 89 ((5 * w8) + 3) (R 83 2)) F H := hP
                refine lv_aload hx hb dL_clerk_187 (lv_at hl 8 rfl) ?_
                refine lv_iconst (v := 5) hx hb dL_clerk_189 (by decide) ?_
                refine lv_iload hx hb dL_clerk_190 (lv_at hl 10 rfl) ?_
                refine lv_imul hx hb dL_clerk_192 ?_
                refine q_top (y := (nI (5 * w8))) (pk_mul 5 w8) ?_
                refine lv_iconst (v := 2) hx hb dL_clerk_193 (by decide) ?_
                refine lv_iadd hx hb dL_clerk_194 ?_
                refine q_top (y := (nI ((5 * w8) + 2))) (nI_add (5 * w8) 2) ?_
                refine lv_iload hx hb dL_clerk_195 (lv_at hl 0 rfl) ?_
                refine lv_bipush (v := 19) hx hb dL_clerk_197 (by decide) ?_
                refine lv_icmp_le (tgt := 207) hx hb dL_clerk_199 (by decide) (fun c_199 => ?_) (fun c_199 => ?_)
                · refine lv_aload hx hb dL_clerk_207 (lv_at hl 8 rfl) ?_
                  refine lv_iconst (v := 5) hx hb dL_clerk_209 (by decide) ?_
                  refine lv_iload hx hb dL_clerk_210 (lv_at hl 10 rfl) ?_
                  refine lv_imul hx hb dL_clerk_212 ?_
                  refine q_top (y := (nI (5 * w8))) (pk_mul 5 w8) ?_
                  refine lv_iconst (v := 2) hx hb dL_clerk_213 (by decide) ?_
                  refine lv_iadd hx hb dL_clerk_214 ?_
                  refine q_top (y := (nI ((5 * w8) + 2))) (nI_add (5 * w8) 2) ?_
                  refine q_ildN hx hb hK hP 88 40 (ar_88) ((5 * w8) + 2) dL_clerk_215 rfl (by omega) (by decide) ?_
                  refine q_top (y := (R 88 ((5 * w8) + 2))) ((congrFun (sR_ne (by decide) _ _) _).trans ((congrFun (sR_ne (by decide) _ _) _).trans (congrFun (sR_ne (by decide) _ _) _))) ?_
                  refine q_istN hx hb hK hI hP hS 88 40 (ar_88) ((5 * w8) + 2) dL_clerk_216 rfl (by omega) (by decide) (fun H locs hP hS => ?_)
                  have hP : WP D cI cS ad (sR (sR (sR (sR R 89 (5 * w8) (((xL_estimate (R 83) (R 84) (R 86) (R 88) w8 kw) * (xL_certainty (R 83) (R 87) (R 88) w8)) / (100 : Int32))) 89 ((5 * w8) + 1) ((((xL_estimate (R 83) (R 84) (R 86) (R 88) w8 kw) * (xL_certainty (R 83) (R 87) (R 88) w8)) / (100 : Int32)) * (R 83 2))) 89 ((5 * w8) + 3) (R 83 2)) 88 ((5 * w8) + 2) (R 88 ((5 * w8) + 2))) F H := hP
                  refine lv_aload_n hx hb dL_clerk_217 rfl (lv_at hl 4 rfl) ?_
                  refine lv_iconst (v := 3) hx hb dL_clerk_218 (by decide) ?_
                  refine lv_dup2_11 hx hb dL_clerk_219 rfl rfl ?_
                  refine q_ildN hx hb hK hP 83 6 (ar_83) 3 dL_clerk_220 rfl (by omega) (by decide) ?_
                  refine q_top (y := (R 83 3)) ((congrFun (sR_ne (by decide) _ _) _).trans ((congrFun (sR_ne (by decide) _ _) _).trans ((congrFun (sR_ne (by decide) _ _) _).trans (congrFun (sR_ne (by decide) _ _) _)))) ?_
                  refine lv_iload hx hb dL_clerk_221 (lv_at hl 0 rfl) ?_
                  refine lv_iadd hx hb dL_clerk_223 ?_
                  refine q_istN hx hb hK hI hP hS 83 6 (ar_83) 3 dL_clerk_224 rfl (by omega) (by decide) (fun H locs hP hS => ?_)
                  have hP : WP D cI cS ad (sR (sR (sR (sR (sR R 89 (5 * w8) (((xL_estimate (R 83) (R 84) (R 86) (R 88) w8 kw) * (xL_certainty (R 83) (R 87) (R 88) w8)) / (100 : Int32))) 89 ((5 * w8) + 1) ((((xL_estimate (R 83) (R 84) (R 86) (R 88) w8 kw) * (xL_certainty (R 83) (R 87) (R 88) w8)) / (100 : Int32)) * (R 83 2))) 89 ((5 * w8) + 3) (R 83 2)) 88 ((5 * w8) + 2) (R 88 ((5 * w8) + 2))) 83 3 ((R 83 3) + (((xL_estimate (R 83) (R 84) (R 86) (R 88) w8 kw) * (xL_certainty (R 83) (R 87) (R 88) w8)) / (100 : Int32)))) F H := hP
                  refine lv_aload_n hx hb dL_clerk_225 rfl (lv_at hl 4 rfl) ?_
                  refine lv_iconst (v := 4) hx hb dL_clerk_226 (by decide) ?_
                  refine lv_dup2_11 hx hb dL_clerk_227 rfl rfl ?_
                  refine q_ildN hx hb hK hP 83 6 (ar_83) 4 dL_clerk_228 rfl (by omega) (by decide) ?_
                  refine q_top (y := (R 83 4)) ((sR_same_ne (by omega)).trans ((congrFun (sR_ne (by decide) _ _) _).trans ((congrFun (sR_ne (by decide) _ _) _).trans ((congrFun (sR_ne (by decide) _ _) _).trans (congrFun (sR_ne (by decide) _ _) _))))) ?_
                  refine lv_iload hx hb dL_clerk_229 (lv_at hl 0 rfl) ?_
                  refine lv_aload_n hx hb dL_clerk_231 rfl (lv_at hl 4 rfl) ?_
                  refine lv_iconst (v := 2) hx hb dL_clerk_232 (by decide) ?_
                  refine q_ildN hx hb hK hP 83 6 (ar_83) 2 dL_clerk_233 rfl (by omega) (by decide) ?_
                  refine q_top (y := (R 83 2)) ((sR_same_ne (by omega)).trans ((congrFun (sR_ne (by decide) _ _) _).trans ((congrFun (sR_ne (by decide) _ _) _).trans ((congrFun (sR_ne (by decide) _ _) _).trans (congrFun (sR_ne (by decide) _ _) _))))) ?_
                  refine lv_imul hx hb dL_clerk_234 ?_
                  refine lv_iadd hx hb dL_clerk_235 ?_
                  refine q_istN hx hb hK hI hP hS 83 6 (ar_83) 4 dL_clerk_236 rfl (by omega) (by decide) (fun H locs hP hS => ?_)
                  have hP : WP D cI cS ad (sR (sR (sR (sR (sR (sR R 89 (5 * w8) (((xL_estimate (R 83) (R 84) (R 86) (R 88) w8 kw) * (xL_certainty (R 83) (R 87) (R 88) w8)) / (100 : Int32))) 89 ((5 * w8) + 1) ((((xL_estimate (R 83) (R 84) (R 86) (R 88) w8 kw) * (xL_certainty (R 83) (R 87) (R 88) w8)) / (100 : Int32)) * (R 83 2))) 89 ((5 * w8) + 3) (R 83 2)) 88 ((5 * w8) + 2) (R 88 ((5 * w8) + 2))) 83 3 ((R 83 3) + (((xL_estimate (R 83) (R 84) (R 86) (R 88) w8 kw) * (xL_certainty (R 83) (R 87) (R 88) w8)) / (100 : Int32)))) 83 4 ((R 83 4) + ((((xL_estimate (R 83) (R 84) (R 86) (R 88) w8 kw) * (xL_certainty (R 83) (R 87) (R 88) w8)) / (100 : Int32)) * (R 83 2)))) F H := hP
                  refine lv_aload_n hx hb dL_clerk_237 rfl (lv_at hl 3 rfl) ?_
                  refine lv_iload hx hb dL_clerk_238 (lv_at hl 10 rfl) ?_
                  refine q_callI (va_runV (As := [.int (nI w8)]) (rest := []) ⟨hx, hb, hml, hown, hts⟩ (mX1_bill l D cI cS ad hI (sR (sR (sR (sR (sR (sR R 89 (5 * w8) (((xL_estimate (R 83) (R 84) (R 86) (R 88) w8 kw) * (xL_certainty (R 83) (R 87) (R 88) w8)) / (100 : Int32))) 89 ((5 * w8) + 1) ((((xL_estimate (R 83) (R 84) (R 86) (R 88) w8 kw) * (xL_certainty (R 83) (R 87) (R 88) w8)) / (100 : Int32)) * (R 83 2))) 89 ((5 * w8) + 3) (R 83 2)) 88 ((5 * w8) + 2) (R 88 ((5 * w8) + 2))) 83 3 ((R 83 3) + (((xL_estimate (R 83) (R 84) (R 86) (R 88) w8 kw) * (xL_certainty (R 83) (R 87) (R 88) w8)) / (100 : Int32)))) 83 4 ((R 83 4) + ((((xL_estimate (R 83) (R 84) (R 86) (R 88) w8 kw) * (xL_certainty (R 83) (R 87) (R 88) w8)) / (100 : Int32)) * (R 83 2)))) F (nI w8) o q ho hq hF0 hF1) (cwV 1 hts gL_clerk_X1_bill rfl rfl rfl (by decide +kernel) ⟨Nat.le_of_ble_eq_true rfl, Nat.le_of_ble_eq_true rfl⟩) (PW_preV (i := 0) (by decide) CC_0 rfl rfl hK hP) rfl rfl hl.1 rfl (lv_room (Nat.le_of_ble_eq_true rfl)) dL_clerk_240 ⟨Nat.zero_le _, Nat.zero_le _⟩) hS (fun H locs hP hS => ?_)
                  refine lv_iload hx hb dL_clerk_243 (lv_at hl 0 rfl) ?_
                  refine lv_icmp_ne (tgt := 252) hx hb dL_clerk_245 (by decide) (fun c_245 => ?_) (fun c_245 => ?_)
                  · refine lv_iconst (v := 0) hx hb dL_clerk_252 (by decide) ?_
                    have hX : (xL_clerk R F w8 p9 kw o q) = ((0 : Int32), ((xX1_bill (sR (sR (sR (sR (sR (sR R 89 (5 * w8) (((xL_estimate (R 83) (R 84) (R 86) (R 88) w8 kw) * (xL_certainty (R 83) (R 87) (R 88) w8)) / (100 : Int32))) 89 ((5 * w8) + 1) ((((xL_estimate (R 83) (R 84) (R 86) (R 88) w8 kw) * (xL_certainty (R 83) (R 87) (R 88) w8)) / (100 : Int32)) * (R 83 2))) 89 ((5 * w8) + 3) (R 83 2)) 88 ((5 * w8) + 2) (R 88 ((5 * w8) + 2))) 83 3 ((R 83 3) + (((xL_estimate (R 83) (R 84) (R 86) (R 88) w8 kw) * (xL_certainty (R 83) (R 87) (R 88) w8)) / (100 : Int32)))) 83 4 ((R 83 4) + ((((xL_estimate (R 83) (R 84) (R 86) (R 88) w8 kw) * (xL_certainty (R 83) (R 87) (R 88) w8)) / (100 : Int32)) * (R 83 2)))) F (nI w8) o q).2.1), ((xX1_bill (sR (sR (sR (sR (sR (sR R 89 (5 * w8) (((xL_estimate (R 83) (R 84) (R 86) (R 88) w8 kw) * (xL_certainty (R 83) (R 87) (R 88) w8)) / (100 : Int32))) 89 ((5 * w8) + 1) ((((xL_estimate (R 83) (R 84) (R 86) (R 88) w8 kw) * (xL_certainty (R 83) (R 87) (R 88) w8)) / (100 : Int32)) * (R 83 2))) 89 ((5 * w8) + 3) (R 83 2)) 88 ((5 * w8) + 2) (R 88 ((5 * w8) + 2))) 83 3 ((R 83 3) + (((xL_estimate (R 83) (R 84) (R 86) (R 88) w8 kw) * (xL_certainty (R 83) (R 87) (R 88) w8)) / (100 : Int32)))) 83 4 ((R 83 4) + ((((xL_estimate (R 83) (R 84) (R 86) (R 88) w8 kw) * (xL_certainty (R 83) (R 87) (R 88) w8)) / (100 : Int32)) * (R 83 2)))) F (nI w8) o q).2.2)) := by rw [← hsp, hL_clerk_76_z, if_pos c_126, if_pos c_140, if_pos c_199, if_neg c_245]
                    exact W.zret (v := (0 : Int32)) hx hb hr rfl (fun t ht hW => ⟨by rw [hX], by rw [hX, ht]; with_reducible exact hP, hS.F ht⟩) hS.2.2 dL_clerk_253
                  · refine lv_iconst (v := 1) hx hb dL_clerk_248 (by decide) ?_
                    refine lv_goto (tgt := 253) hx hb dL_clerk_249 (by decide) ?_
                    have hX : (xL_clerk R F w8 p9 kw o q) = ((1 : Int32), ((xX1_bill (sR (sR (sR (sR (sR (sR R 89 (5 * w8) (((xL_estimate (R 83) (R 84) (R 86) (R 88) w8 kw) * (xL_certainty (R 83) (R 87) (R 88) w8)) / (100 : Int32))) 89 ((5 * w8) + 1) ((((xL_estimate (R 83) (R 84) (R 86) (R 88) w8 kw) * (xL_certainty (R 83) (R 87) (R 88) w8)) / (100 : Int32)) * (R 83 2))) 89 ((5 * w8) + 3) (R 83 2)) 88 ((5 * w8) + 2) (R 88 ((5 * w8) + 2))) 83 3 ((R 83 3) + (((xL_estimate (R 83) (R 84) (R 86) (R 88) w8 kw) * (xL_certainty (R 83) (R 87) (R 88) w8)) / (100 : Int32)))) 83 4 ((R 83 4) + ((((xL_estimate (R 83) (R 84) (R 86) (R 88) w8 kw) * (xL_certainty (R 83) (R 87) (R 88) w8)) / (100 : Int32)) * (R 83 2)))) F (nI w8) o q).2.1), ((xX1_bill (sR (sR (sR (sR (sR (sR R 89 (5 * w8) (((xL_estimate (R 83) (R 84) (R 86) (R 88) w8 kw) * (xL_certainty (R 83) (R 87) (R 88) w8)) / (100 : Int32))) 89 ((5 * w8) + 1) ((((xL_estimate (R 83) (R 84) (R 86) (R 88) w8 kw) * (xL_certainty (R 83) (R 87) (R 88) w8)) / (100 : Int32)) * (R 83 2))) 89 ((5 * w8) + 3) (R 83 2)) 88 ((5 * w8) + 2) (R 88 ((5 * w8) + 2))) 83 3 ((R 83 3) + (((xL_estimate (R 83) (R 84) (R 86) (R 88) w8 kw) * (xL_certainty (R 83) (R 87) (R 88) w8)) / (100 : Int32)))) 83 4 ((R 83 4) + ((((xL_estimate (R 83) (R 84) (R 86) (R 88) w8 kw) * (xL_certainty (R 83) (R 87) (R 88) w8)) / (100 : Int32)) * (R 83 2)))) F (nI w8) o q).2.2)) := by rw [← hsp, hL_clerk_76_z, if_pos c_126, if_pos c_140, if_pos c_199, if_pos c_245]
                    exact W.zret (v := (1 : Int32)) hx hb hr rfl (fun t ht hW => ⟨by rw [hX], by rw [hX, ht]; with_reducible exact hP, hS.F ht⟩) hS.2.2 dL_clerk_253
                · refine lv_iload hx hb dL_clerk_202 (lv_at hl 0 rfl) ?_
                  refine lv_goto (tgt := 216) hx hb dL_clerk_204 (by decide) ?_
                  refine q_istN hx hb hK hI hP hS 88 40 (ar_88) ((5 * w8) + 2) dL_clerk_216 rfl (by omega) (by decide) (fun H locs hP hS => ?_)
                  have hP : WP D cI cS ad (sR (sR (sR (sR R 89 (5 * w8) (((xL_estimate (R 83) (R 84) (R 86) (R 88) w8 kw) * (xL_certainty (R 83) (R 87) (R 88) w8)) / (100 : Int32))) 89 ((5 * w8) + 1) ((((xL_estimate (R 83) (R 84) (R 86) (R 88) w8 kw) * (xL_certainty (R 83) (R 87) (R 88) w8)) / (100 : Int32)) * (R 83 2))) 89 ((5 * w8) + 3) (R 83 2)) 88 ((5 * w8) + 2) (((xL_estimate (R 83) (R 84) (R 86) (R 88) w8 kw) * (xL_certainty (R 83) (R 87) (R 88) w8)) / (100 : Int32))) F H := hP
                  refine lv_aload_n hx hb dL_clerk_217 rfl (lv_at hl 4 rfl) ?_
                  refine lv_iconst (v := 3) hx hb dL_clerk_218 (by decide) ?_
                  refine lv_dup2_11 hx hb dL_clerk_219 rfl rfl ?_
                  refine q_ildN hx hb hK hP 83 6 (ar_83) 3 dL_clerk_220 rfl (by omega) (by decide) ?_
                  refine q_top (y := (R 83 3)) ((congrFun (sR_ne (by decide) _ _) _).trans ((congrFun (sR_ne (by decide) _ _) _).trans ((congrFun (sR_ne (by decide) _ _) _).trans (congrFun (sR_ne (by decide) _ _) _)))) ?_
                  refine lv_iload hx hb dL_clerk_221 (lv_at hl 0 rfl) ?_
                  refine lv_iadd hx hb dL_clerk_223 ?_
                  refine q_istN hx hb hK hI hP hS 83 6 (ar_83) 3 dL_clerk_224 rfl (by omega) (by decide) (fun H locs hP hS => ?_)
                  have hP : WP D cI cS ad (sR (sR (sR (sR (sR R 89 (5 * w8) (((xL_estimate (R 83) (R 84) (R 86) (R 88) w8 kw) * (xL_certainty (R 83) (R 87) (R 88) w8)) / (100 : Int32))) 89 ((5 * w8) + 1) ((((xL_estimate (R 83) (R 84) (R 86) (R 88) w8 kw) * (xL_certainty (R 83) (R 87) (R 88) w8)) / (100 : Int32)) * (R 83 2))) 89 ((5 * w8) + 3) (R 83 2)) 88 ((5 * w8) + 2) (((xL_estimate (R 83) (R 84) (R 86) (R 88) w8 kw) * (xL_certainty (R 83) (R 87) (R 88) w8)) / (100 : Int32))) 83 3 ((R 83 3) + (((xL_estimate (R 83) (R 84) (R 86) (R 88) w8 kw) * (xL_certainty (R 83) (R 87) (R 88) w8)) / (100 : Int32)))) F H := hP
                  refine lv_aload_n hx hb dL_clerk_225 rfl (lv_at hl 4 rfl) ?_
                  refine lv_iconst (v := 4) hx hb dL_clerk_226 (by decide) ?_
                  refine lv_dup2_11 hx hb dL_clerk_227 rfl rfl ?_
                  refine q_ildN hx hb hK hP 83 6 (ar_83) 4 dL_clerk_228 rfl (by omega) (by decide) ?_
                  refine q_top (y := (R 83 4)) ((sR_same_ne (by omega)).trans ((congrFun (sR_ne (by decide) _ _) _).trans ((congrFun (sR_ne (by decide) _ _) _).trans ((congrFun (sR_ne (by decide) _ _) _).trans (congrFun (sR_ne (by decide) _ _) _))))) ?_
                  refine lv_iload hx hb dL_clerk_229 (lv_at hl 0 rfl) ?_
                  refine lv_aload_n hx hb dL_clerk_231 rfl (lv_at hl 4 rfl) ?_
                  refine lv_iconst (v := 2) hx hb dL_clerk_232 (by decide) ?_
                  refine q_ildN hx hb hK hP 83 6 (ar_83) 2 dL_clerk_233 rfl (by omega) (by decide) ?_
                  refine q_top (y := (R 83 2)) ((sR_same_ne (by omega)).trans ((congrFun (sR_ne (by decide) _ _) _).trans ((congrFun (sR_ne (by decide) _ _) _).trans ((congrFun (sR_ne (by decide) _ _) _).trans (congrFun (sR_ne (by decide) _ _) _))))) ?_
                  refine lv_imul hx hb dL_clerk_234 ?_
                  refine lv_iadd hx hb dL_clerk_235 ?_
                  refine q_istN hx hb hK hI hP hS 83 6 (ar_83) 4 dL_clerk_236 rfl (by omega) (by decide) (fun H locs hP hS => ?_)
                  have hP : WP D cI cS ad (sR (sR (sR (sR (sR (sR R 89 (5 * w8) (((xL_estimate (R 83) (R 84) (R 86) (R 88) w8 kw) * (xL_certainty (R 83) (R 87) (R 88) w8)) / (100 : Int32))) 89 ((5 * w8) + 1) ((((xL_estimate (R 83) (R 84) (R 86) (R 88) w8 kw) * (xL_certainty (R 83) (R 87) (R 88) w8)) / (100 : Int32)) * (R 83 2))) 89 ((5 * w8) + 3) (R 83 2)) 88 ((5 * w8) + 2) (((xL_estimate (R 83) (R 84) (R 86) (R 88) w8 kw) * (xL_certainty (R 83) (R 87) (R 88) w8)) / (100 : Int32))) 83 3 ((R 83 3) + (((xL_estimate (R 83) (R 84) (R 86) (R 88) w8 kw) * (xL_certainty (R 83) (R 87) (R 88) w8)) / (100 : Int32)))) 83 4 ((R 83 4) + ((((xL_estimate (R 83) (R 84) (R 86) (R 88) w8 kw) * (xL_certainty (R 83) (R 87) (R 88) w8)) / (100 : Int32)) * (R 83 2)))) F H := hP
                  refine lv_aload_n hx hb dL_clerk_237 rfl (lv_at hl 3 rfl) ?_
                  refine lv_iload hx hb dL_clerk_238 (lv_at hl 10 rfl) ?_
                  refine q_callI (va_runV (As := [.int (nI w8)]) (rest := []) ⟨hx, hb, hml, hown, hts⟩ (mX1_bill l D cI cS ad hI (sR (sR (sR (sR (sR (sR R 89 (5 * w8) (((xL_estimate (R 83) (R 84) (R 86) (R 88) w8 kw) * (xL_certainty (R 83) (R 87) (R 88) w8)) / (100 : Int32))) 89 ((5 * w8) + 1) ((((xL_estimate (R 83) (R 84) (R 86) (R 88) w8 kw) * (xL_certainty (R 83) (R 87) (R 88) w8)) / (100 : Int32)) * (R 83 2))) 89 ((5 * w8) + 3) (R 83 2)) 88 ((5 * w8) + 2) (((xL_estimate (R 83) (R 84) (R 86) (R 88) w8 kw) * (xL_certainty (R 83) (R 87) (R 88) w8)) / (100 : Int32))) 83 3 ((R 83 3) + (((xL_estimate (R 83) (R 84) (R 86) (R 88) w8 kw) * (xL_certainty (R 83) (R 87) (R 88) w8)) / (100 : Int32)))) 83 4 ((R 83 4) + ((((xL_estimate (R 83) (R 84) (R 86) (R 88) w8 kw) * (xL_certainty (R 83) (R 87) (R 88) w8)) / (100 : Int32)) * (R 83 2)))) F (nI w8) o q ho hq hF0 hF1) (cwV 1 hts gL_clerk_X1_bill rfl rfl rfl (by decide +kernel) ⟨Nat.le_of_ble_eq_true rfl, Nat.le_of_ble_eq_true rfl⟩) (PW_preV (i := 0) (by decide) CC_0 rfl rfl hK hP) rfl rfl hl.1 rfl (lv_room (Nat.le_of_ble_eq_true rfl)) dL_clerk_240 ⟨Nat.zero_le _, Nat.zero_le _⟩) hS (fun H locs hP hS => ?_)
                  refine lv_iload hx hb dL_clerk_243 (lv_at hl 0 rfl) ?_
                  refine lv_icmp_ne (tgt := 252) hx hb dL_clerk_245 (by decide) (fun c_245 => ?_) (fun c_245 => ?_)
                  · refine lv_iconst (v := 0) hx hb dL_clerk_252 (by decide) ?_
                    have hX : (xL_clerk R F w8 p9 kw o q) = ((0 : Int32), ((xX1_bill (sR (sR (sR (sR (sR (sR R 89 (5 * w8) (((xL_estimate (R 83) (R 84) (R 86) (R 88) w8 kw) * (xL_certainty (R 83) (R 87) (R 88) w8)) / (100 : Int32))) 89 ((5 * w8) + 1) ((((xL_estimate (R 83) (R 84) (R 86) (R 88) w8 kw) * (xL_certainty (R 83) (R 87) (R 88) w8)) / (100 : Int32)) * (R 83 2))) 89 ((5 * w8) + 3) (R 83 2)) 88 ((5 * w8) + 2) (((xL_estimate (R 83) (R 84) (R 86) (R 88) w8 kw) * (xL_certainty (R 83) (R 87) (R 88) w8)) / (100 : Int32))) 83 3 ((R 83 3) + (((xL_estimate (R 83) (R 84) (R 86) (R 88) w8 kw) * (xL_certainty (R 83) (R 87) (R 88) w8)) / (100 : Int32)))) 83 4 ((R 83 4) + ((((xL_estimate (R 83) (R 84) (R 86) (R 88) w8 kw) * (xL_certainty (R 83) (R 87) (R 88) w8)) / (100 : Int32)) * (R 83 2)))) F (nI w8) o q).2.1), ((xX1_bill (sR (sR (sR (sR (sR (sR R 89 (5 * w8) (((xL_estimate (R 83) (R 84) (R 86) (R 88) w8 kw) * (xL_certainty (R 83) (R 87) (R 88) w8)) / (100 : Int32))) 89 ((5 * w8) + 1) ((((xL_estimate (R 83) (R 84) (R 86) (R 88) w8 kw) * (xL_certainty (R 83) (R 87) (R 88) w8)) / (100 : Int32)) * (R 83 2))) 89 ((5 * w8) + 3) (R 83 2)) 88 ((5 * w8) + 2) (((xL_estimate (R 83) (R 84) (R 86) (R 88) w8 kw) * (xL_certainty (R 83) (R 87) (R 88) w8)) / (100 : Int32))) 83 3 ((R 83 3) + (((xL_estimate (R 83) (R 84) (R 86) (R 88) w8 kw) * (xL_certainty (R 83) (R 87) (R 88) w8)) / (100 : Int32)))) 83 4 ((R 83 4) + ((((xL_estimate (R 83) (R 84) (R 86) (R 88) w8 kw) * (xL_certainty (R 83) (R 87) (R 88) w8)) / (100 : Int32)) * (R 83 2)))) F (nI w8) o q).2.2)) := by rw [← hsp, hL_clerk_76_z, if_pos c_126, if_pos c_140, if_neg c_199, if_neg c_245]
                    exact W.zret (v := (0 : Int32)) hx hb hr rfl (fun t ht hW => ⟨by rw [hX], by rw [hX, ht]; with_reducible exact hP, hS.F ht⟩) hS.2.2 dL_clerk_253
                  · refine lv_iconst (v := 1) hx hb dL_clerk_248 (by decide) ?_
                    refine lv_goto (tgt := 253) hx hb dL_clerk_249 (by decide) ?_
                    have hX : (xL_clerk R F w8 p9 kw o q) = ((1 : Int32), ((xX1_bill (sR (sR (sR (sR (sR (sR R 89 (5 * w8) (((xL_estimate (R 83) (R 84) (R 86) (R 88) w8 kw) * (xL_certainty (R 83) (R 87) (R 88) w8)) / (100 : Int32))) 89 ((5 * w8) + 1) ((((xL_estimate (R 83) (R 84) (R 86) (R 88) w8 kw) * (xL_certainty (R 83) (R 87) (R 88) w8)) / (100 : Int32)) * (R 83 2))) 89 ((5 * w8) + 3) (R 83 2)) 88 ((5 * w8) + 2) (((xL_estimate (R 83) (R 84) (R 86) (R 88) w8 kw) * (xL_certainty (R 83) (R 87) (R 88) w8)) / (100 : Int32))) 83 3 ((R 83 3) + (((xL_estimate (R 83) (R 84) (R 86) (R 88) w8 kw) * (xL_certainty (R 83) (R 87) (R 88) w8)) / (100 : Int32)))) 83 4 ((R 83 4) + ((((xL_estimate (R 83) (R 84) (R 86) (R 88) w8 kw) * (xL_certainty (R 83) (R 87) (R 88) w8)) / (100 : Int32)) * (R 83 2)))) F (nI w8) o q).2.1), ((xX1_bill (sR (sR (sR (sR (sR (sR R 89 (5 * w8) (((xL_estimate (R 83) (R 84) (R 86) (R 88) w8 kw) * (xL_certainty (R 83) (R 87) (R 88) w8)) / (100 : Int32))) 89 ((5 * w8) + 1) ((((xL_estimate (R 83) (R 84) (R 86) (R 88) w8 kw) * (xL_certainty (R 83) (R 87) (R 88) w8)) / (100 : Int32)) * (R 83 2))) 89 ((5 * w8) + 3) (R 83 2)) 88 ((5 * w8) + 2) (((xL_estimate (R 83) (R 84) (R 86) (R 88) w8 kw) * (xL_certainty (R 83) (R 87) (R 88) w8)) / (100 : Int32))) 83 3 ((R 83 3) + (((xL_estimate (R 83) (R 84) (R 86) (R 88) w8 kw) * (xL_certainty (R 83) (R 87) (R 88) w8)) / (100 : Int32)))) 83 4 ((R 83 4) + ((((xL_estimate (R 83) (R 84) (R 86) (R 88) w8 kw) * (xL_certainty (R 83) (R 87) (R 88) w8)) / (100 : Int32)) * (R 83 2)))) F (nI w8) o q).2.2)) := by rw [← hsp, hL_clerk_76_z, if_pos c_126, if_pos c_140, if_neg c_199, if_pos c_245]
                    exact W.zret (v := (1 : Int32)) hx hb hr rfl (fun t ht hW => ⟨by rw [hX], by rw [hX, ht]; with_reducible exact hP, hS.F ht⟩) hS.2.2 dL_clerk_253
              · refine lv_iconst (v := 0) hx hb dL_clerk_143 (by decide) ?_
                refine lv_goto (tgt := 149) hx hb dL_clerk_144 (by decide) ?_
                refine lv_istore (lv' := [(9, .int (0 : Int32)), (11, .int (x10 - (R 83 3))), (10, .int x10), (0, .ref (ad 0)), (1, .ref (ad 83)), (2, .ref (ad 84)), (3, .ref (ad 86)), (4, .ref (ad 87)), (5, .ref (ad 88)), (6, .ref (ad 89)), (7, .int (nI w8)), (8, .int p9)]) hx hb dL_clerk_149 hl (by decide) rfl (fun ls hl => ?_)
                refine lv_aload hx hb dL_clerk_151 (lv_at hl 9 rfl) ?_
                refine lv_iconst (v := 5) hx hb dL_clerk_153 (by decide) ?_
                refine lv_iload hx hb dL_clerk_154 (lv_at hl 10 rfl) ?_
                refine lv_imul hx hb dL_clerk_156 ?_
                refine q_top (y := (nI (5 * w8))) (pk_mul 5 w8) ?_
                refine lv_iload hx hb dL_clerk_157 (lv_at hl 0 rfl) ?_
                refine q_istN hx hb hK hI hP hS 89 40 (ar_89) (5 * w8) dL_clerk_159 rfl (by omega) (by decide) (fun H locs hP hS => ?_)
                have hP : WP D cI cS ad (sR R 89 (5 * w8) (0 : Int32)) F H := hP
                refine lv_aload hx hb dL_clerk_160 (lv_at hl 9 rfl) ?_
                refine lv_iconst (v := 5) hx hb dL_clerk_162 (by decide) ?_
                refine lv_iload hx hb dL_clerk_163 (lv_at hl 10 rfl) ?_
                refine lv_imul hx hb dL_clerk_165 ?_
                refine q_top (y := (nI (5 * w8))) (pk_mul 5 w8) ?_
                refine lv_iconst (v := 1) hx hb dL_clerk_166 (by decide) ?_
                refine lv_iadd hx hb dL_clerk_167 ?_
                refine q_top (y := (nI ((5 * w8) + 1))) (nI_add (5 * w8) 1) ?_
                refine lv_iload hx hb dL_clerk_168 (lv_at hl 0 rfl) ?_
                refine lv_aload_n hx hb dL_clerk_170 rfl (lv_at hl 4 rfl) ?_
                refine lv_iconst (v := 2) hx hb dL_clerk_171 (by decide) ?_
                refine q_ildN hx hb hK hP 83 6 (ar_83) 2 dL_clerk_172 rfl (by omega) (by decide) ?_
                refine q_top (y := (R 83 2)) (congrFun (sR_ne (by decide) _ _) _) ?_
                refine lv_imul hx hb dL_clerk_173 ?_
                refine q_istN hx hb hK hI hP hS 89 40 (ar_89) ((5 * w8) + 1) dL_clerk_174 rfl (by omega) (by decide) (fun H locs hP hS => ?_)
                have hP : WP D cI cS ad (sR (sR R 89 (5 * w8) (0 : Int32)) 89 ((5 * w8) + 1) ((0 : Int32) * (R 83 2))) F H := hP
                refine lv_aload hx hb dL_clerk_175 (lv_at hl 9 rfl) ?_
                refine lv_iconst (v := 5) hx hb dL_clerk_177 (by decide) ?_
                refine lv_iload hx hb dL_clerk_178 (lv_at hl 10 rfl) ?_
                refine lv_imul hx hb dL_clerk_180 ?_
                refine q_top (y := (nI (5 * w8))) (pk_mul 5 w8) ?_
                refine lv_iconst (v := 3) hx hb dL_clerk_181 (by decide) ?_
                refine lv_iadd hx hb dL_clerk_182 ?_
                refine q_top (y := (nI ((5 * w8) + 3))) (nI_add (5 * w8) 3) ?_
                refine lv_aload_n hx hb dL_clerk_183 rfl (lv_at hl 4 rfl) ?_
                refine lv_iconst (v := 2) hx hb dL_clerk_184 (by decide) ?_
                refine q_ildN hx hb hK hP 83 6 (ar_83) 2 dL_clerk_185 rfl (by omega) (by decide) ?_
                refine q_top (y := (R 83 2)) ((congrFun (sR_ne (by decide) _ _) _).trans (congrFun (sR_ne (by decide) _ _) _)) ?_
                refine q_istN hx hb hK hI hP hS 89 40 (ar_89) ((5 * w8) + 3) dL_clerk_186 rfl (by omega) (by decide) (fun H locs hP hS => ?_)
                have hP : WP D cI cS ad (sR (sR (sR R 89 (5 * w8) (0 : Int32)) 89 ((5 * w8) + 1) ((0 : Int32) * (R 83 2))) 89 ((5 * w8) + 3) (R 83 2)) F H := hP
                refine lv_aload hx hb dL_clerk_187 (lv_at hl 8 rfl) ?_
                refine lv_iconst (v := 5) hx hb dL_clerk_189 (by decide) ?_
                refine lv_iload hx hb dL_clerk_190 (lv_at hl 10 rfl) ?_
                refine lv_imul hx hb dL_clerk_192 ?_
                refine q_top (y := (nI (5 * w8))) (pk_mul 5 w8) ?_
                refine lv_iconst (v := 2) hx hb dL_clerk_193 (by decide) ?_
                refine lv_iadd hx hb dL_clerk_194 ?_
                refine q_top (y := (nI ((5 * w8) + 2))) (nI_add (5 * w8) 2) ?_
                refine lv_iload hx hb dL_clerk_195 (lv_at hl 0 rfl) ?_
                refine lv_bipush (v := 19) hx hb dL_clerk_197 (by decide) ?_
                refine lv_icmp_le (tgt := 207) hx hb dL_clerk_199 (by decide) (fun c_199 => ?_) (fun c_199 => ?_)
                · refine lv_aload hx hb dL_clerk_207 (lv_at hl 8 rfl) ?_
                  refine lv_iconst (v := 5) hx hb dL_clerk_209 (by decide) ?_
                  refine lv_iload hx hb dL_clerk_210 (lv_at hl 10 rfl) ?_
                  refine lv_imul hx hb dL_clerk_212 ?_
                  refine q_top (y := (nI (5 * w8))) (pk_mul 5 w8) ?_
                  refine lv_iconst (v := 2) hx hb dL_clerk_213 (by decide) ?_
                  refine lv_iadd hx hb dL_clerk_214 ?_
                  refine q_top (y := (nI ((5 * w8) + 2))) (nI_add (5 * w8) 2) ?_
                  refine q_ildN hx hb hK hP 88 40 (ar_88) ((5 * w8) + 2) dL_clerk_215 rfl (by omega) (by decide) ?_
                  refine q_top (y := (R 88 ((5 * w8) + 2))) ((congrFun (sR_ne (by decide) _ _) _).trans ((congrFun (sR_ne (by decide) _ _) _).trans (congrFun (sR_ne (by decide) _ _) _))) ?_
                  refine q_istN hx hb hK hI hP hS 88 40 (ar_88) ((5 * w8) + 2) dL_clerk_216 rfl (by omega) (by decide) (fun H locs hP hS => ?_)
                  have hP : WP D cI cS ad (sR (sR (sR (sR R 89 (5 * w8) (0 : Int32)) 89 ((5 * w8) + 1) ((0 : Int32) * (R 83 2))) 89 ((5 * w8) + 3) (R 83 2)) 88 ((5 * w8) + 2) (R 88 ((5 * w8) + 2))) F H := hP
                  refine lv_aload_n hx hb dL_clerk_217 rfl (lv_at hl 4 rfl) ?_
                  refine lv_iconst (v := 3) hx hb dL_clerk_218 (by decide) ?_
                  refine lv_dup2_11 hx hb dL_clerk_219 rfl rfl ?_
                  refine q_ildN hx hb hK hP 83 6 (ar_83) 3 dL_clerk_220 rfl (by omega) (by decide) ?_
                  refine q_top (y := (R 83 3)) ((congrFun (sR_ne (by decide) _ _) _).trans ((congrFun (sR_ne (by decide) _ _) _).trans ((congrFun (sR_ne (by decide) _ _) _).trans (congrFun (sR_ne (by decide) _ _) _)))) ?_
                  refine lv_iload hx hb dL_clerk_221 (lv_at hl 0 rfl) ?_
                  refine lv_iadd hx hb dL_clerk_223 ?_
                  refine q_istN hx hb hK hI hP hS 83 6 (ar_83) 3 dL_clerk_224 rfl (by omega) (by decide) (fun H locs hP hS => ?_)
                  have hP : WP D cI cS ad (sR (sR (sR (sR (sR R 89 (5 * w8) (0 : Int32)) 89 ((5 * w8) + 1) ((0 : Int32) * (R 83 2))) 89 ((5 * w8) + 3) (R 83 2)) 88 ((5 * w8) + 2) (R 88 ((5 * w8) + 2))) 83 3 ((R 83 3) + (0 : Int32))) F H := hP
                  refine lv_aload_n hx hb dL_clerk_225 rfl (lv_at hl 4 rfl) ?_
                  refine lv_iconst (v := 4) hx hb dL_clerk_226 (by decide) ?_
                  refine lv_dup2_11 hx hb dL_clerk_227 rfl rfl ?_
                  refine q_ildN hx hb hK hP 83 6 (ar_83) 4 dL_clerk_228 rfl (by omega) (by decide) ?_
                  refine q_top (y := (R 83 4)) ((sR_same_ne (by omega)).trans ((congrFun (sR_ne (by decide) _ _) _).trans ((congrFun (sR_ne (by decide) _ _) _).trans ((congrFun (sR_ne (by decide) _ _) _).trans (congrFun (sR_ne (by decide) _ _) _))))) ?_
                  refine lv_iload hx hb dL_clerk_229 (lv_at hl 0 rfl) ?_
                  refine lv_aload_n hx hb dL_clerk_231 rfl (lv_at hl 4 rfl) ?_
                  refine lv_iconst (v := 2) hx hb dL_clerk_232 (by decide) ?_
                  refine q_ildN hx hb hK hP 83 6 (ar_83) 2 dL_clerk_233 rfl (by omega) (by decide) ?_
                  refine q_top (y := (R 83 2)) ((sR_same_ne (by omega)).trans ((congrFun (sR_ne (by decide) _ _) _).trans ((congrFun (sR_ne (by decide) _ _) _).trans ((congrFun (sR_ne (by decide) _ _) _).trans (congrFun (sR_ne (by decide) _ _) _))))) ?_
                  refine lv_imul hx hb dL_clerk_234 ?_
                  refine lv_iadd hx hb dL_clerk_235 ?_
                  refine q_istN hx hb hK hI hP hS 83 6 (ar_83) 4 dL_clerk_236 rfl (by omega) (by decide) (fun H locs hP hS => ?_)
                  have hP : WP D cI cS ad (sR (sR (sR (sR (sR (sR R 89 (5 * w8) (0 : Int32)) 89 ((5 * w8) + 1) ((0 : Int32) * (R 83 2))) 89 ((5 * w8) + 3) (R 83 2)) 88 ((5 * w8) + 2) (R 88 ((5 * w8) + 2))) 83 3 ((R 83 3) + (0 : Int32))) 83 4 ((R 83 4) + ((0 : Int32) * (R 83 2)))) F H := hP
                  refine lv_aload_n hx hb dL_clerk_237 rfl (lv_at hl 3 rfl) ?_
                  refine lv_iload hx hb dL_clerk_238 (lv_at hl 10 rfl) ?_
                  refine q_callI (va_runV (As := [.int (nI w8)]) (rest := []) ⟨hx, hb, hml, hown, hts⟩ (mX1_bill l D cI cS ad hI (sR (sR (sR (sR (sR (sR R 89 (5 * w8) (0 : Int32)) 89 ((5 * w8) + 1) ((0 : Int32) * (R 83 2))) 89 ((5 * w8) + 3) (R 83 2)) 88 ((5 * w8) + 2) (R 88 ((5 * w8) + 2))) 83 3 ((R 83 3) + (0 : Int32))) 83 4 ((R 83 4) + ((0 : Int32) * (R 83 2)))) F (nI w8) o q ho hq hF0 hF1) (cwV 1 hts gL_clerk_X1_bill rfl rfl rfl (by decide +kernel) ⟨Nat.le_of_ble_eq_true rfl, Nat.le_of_ble_eq_true rfl⟩) (PW_preV (i := 0) (by decide) CC_0 rfl rfl hK hP) rfl rfl hl.1 rfl (lv_room (Nat.le_of_ble_eq_true rfl)) dL_clerk_240 ⟨Nat.zero_le _, Nat.zero_le _⟩) hS (fun H locs hP hS => ?_)
                  refine lv_iload hx hb dL_clerk_243 (lv_at hl 0 rfl) ?_
                  refine lv_icmp_ne (tgt := 252) hx hb dL_clerk_245 (by decide) (fun c_245 => ?_) (fun c_245 => ?_)
                  · refine lv_iconst (v := 0) hx hb dL_clerk_252 (by decide) ?_
                    have hX : (xL_clerk R F w8 p9 kw o q) = ((0 : Int32), ((xX1_bill (sR (sR (sR (sR (sR (sR R 89 (5 * w8) (0 : Int32)) 89 ((5 * w8) + 1) ((0 : Int32) * (R 83 2))) 89 ((5 * w8) + 3) (R 83 2)) 88 ((5 * w8) + 2) (R 88 ((5 * w8) + 2))) 83 3 ((R 83 3) + (0 : Int32))) 83 4 ((R 83 4) + ((0 : Int32) * (R 83 2)))) F (nI w8) o q).2.1), ((xX1_bill (sR (sR (sR (sR (sR (sR R 89 (5 * w8) (0 : Int32)) 89 ((5 * w8) + 1) ((0 : Int32) * (R 83 2))) 89 ((5 * w8) + 3) (R 83 2)) 88 ((5 * w8) + 2) (R 88 ((5 * w8) + 2))) 83 3 ((R 83 3) + (0 : Int32))) 83 4 ((R 83 4) + ((0 : Int32) * (R 83 2)))) F (nI w8) o q).2.2)) := by rw [← hsp, hL_clerk_76_z, if_pos c_126, if_neg c_140, if_neg c_245]
                    exact W.zret (v := (0 : Int32)) hx hb hr rfl (fun t ht hW => ⟨by rw [hX], by rw [hX, ht]; with_reducible exact hP, hS.F ht⟩) hS.2.2 dL_clerk_253
                  · refine lv_iconst (v := 1) hx hb dL_clerk_248 (by decide) ?_
                    refine lv_goto (tgt := 253) hx hb dL_clerk_249 (by decide) ?_
                    have hX : (xL_clerk R F w8 p9 kw o q) = ((1 : Int32), ((xX1_bill (sR (sR (sR (sR (sR (sR R 89 (5 * w8) (0 : Int32)) 89 ((5 * w8) + 1) ((0 : Int32) * (R 83 2))) 89 ((5 * w8) + 3) (R 83 2)) 88 ((5 * w8) + 2) (R 88 ((5 * w8) + 2))) 83 3 ((R 83 3) + (0 : Int32))) 83 4 ((R 83 4) + ((0 : Int32) * (R 83 2)))) F (nI w8) o q).2.1), ((xX1_bill (sR (sR (sR (sR (sR (sR R 89 (5 * w8) (0 : Int32)) 89 ((5 * w8) + 1) ((0 : Int32) * (R 83 2))) 89 ((5 * w8) + 3) (R 83 2)) 88 ((5 * w8) + 2) (R 88 ((5 * w8) + 2))) 83 3 ((R 83 3) + (0 : Int32))) 83 4 ((R 83 4) + ((0 : Int32) * (R 83 2)))) F (nI w8) o q).2.2)) := by rw [← hsp, hL_clerk_76_z, if_pos c_126, if_neg c_140, if_pos c_245]
                    exact W.zret (v := (1 : Int32)) hx hb hr rfl (fun t ht hW => ⟨by rw [hX], by rw [hX, ht]; with_reducible exact hP, hS.F ht⟩) hS.2.2 dL_clerk_253
                · exact absurd (by decide) c_199
            · refine lv_iload hx hb dL_clerk_129 (lv_at hl 0 rfl) ?_
              refine lv_goto (tgt := 136) hx hb dL_clerk_131 (by decide) ?_
              refine lv_istore (lv' := [(9, .int (x10 - (R 83 3))), (11, .int (x10 - (R 83 3))), (10, .int x10), (0, .ref (ad 0)), (1, .ref (ad 83)), (2, .ref (ad 84)), (3, .ref (ad 86)), (4, .ref (ad 87)), (5, .ref (ad 88)), (6, .ref (ad 89)), (7, .int (nI w8)), (8, .int p9)]) hx hb dL_clerk_136 hl (by decide) rfl (fun ls hl => ?_)
              refine lv_iload hx hb dL_clerk_138 (lv_at hl 0 rfl) ?_
              refine lv_if_ge (tgt := 147) hx hb dL_clerk_140 (by decide) (fun c_140 => ?_) (fun c_140 => ?_)
              · refine lv_iload hx hb dL_clerk_147 (lv_at hl 0 rfl) ?_
                refine lv_istore (lv' := [(9, .int (x10 - (R 83 3))), (11, .int (x10 - (R 83 3))), (10, .int x10), (0, .ref (ad 0)), (1, .ref (ad 83)), (2, .ref (ad 84)), (3, .ref (ad 86)), (4, .ref (ad 87)), (5, .ref (ad 88)), (6, .ref (ad 89)), (7, .int (nI w8)), (8, .int p9)]) hx hb dL_clerk_149 hl (by decide) rfl (fun ls hl => ?_)
                refine lv_aload hx hb dL_clerk_151 (lv_at hl 9 rfl) ?_
                refine lv_iconst (v := 5) hx hb dL_clerk_153 (by decide) ?_
                refine lv_iload hx hb dL_clerk_154 (lv_at hl 10 rfl) ?_
                refine lv_imul hx hb dL_clerk_156 ?_
                refine q_top (y := (nI (5 * w8))) (pk_mul 5 w8) ?_
                refine lv_iload hx hb dL_clerk_157 (lv_at hl 0 rfl) ?_
                refine q_istN hx hb hK hI hP hS 89 40 (ar_89) (5 * w8) dL_clerk_159 rfl (by omega) (by decide) (fun H locs hP hS => ?_)
                have hP : WP D cI cS ad (sR R 89 (5 * w8) (x10 - (R 83 3))) F H := hP
                refine lv_aload hx hb dL_clerk_160 (lv_at hl 9 rfl) ?_
                refine lv_iconst (v := 5) hx hb dL_clerk_162 (by decide) ?_
                refine lv_iload hx hb dL_clerk_163 (lv_at hl 10 rfl) ?_
                refine lv_imul hx hb dL_clerk_165 ?_
                refine q_top (y := (nI (5 * w8))) (pk_mul 5 w8) ?_
                refine lv_iconst (v := 1) hx hb dL_clerk_166 (by decide) ?_
                refine lv_iadd hx hb dL_clerk_167 ?_
                refine q_top (y := (nI ((5 * w8) + 1))) (nI_add (5 * w8) 1) ?_
                refine lv_iload hx hb dL_clerk_168 (lv_at hl 0 rfl) ?_
                refine lv_aload_n hx hb dL_clerk_170 rfl (lv_at hl 4 rfl) ?_
                refine lv_iconst (v := 2) hx hb dL_clerk_171 (by decide) ?_
                refine q_ildN hx hb hK hP 83 6 (ar_83) 2 dL_clerk_172 rfl (by omega) (by decide) ?_
                refine q_top (y := (R 83 2)) (congrFun (sR_ne (by decide) _ _) _) ?_
                refine lv_imul hx hb dL_clerk_173 ?_
                refine q_istN hx hb hK hI hP hS 89 40 (ar_89) ((5 * w8) + 1) dL_clerk_174 rfl (by omega) (by decide) (fun H locs hP hS => ?_)
                have hP : WP D cI cS ad (sR (sR R 89 (5 * w8) (x10 - (R 83 3))) 89 ((5 * w8) + 1) ((x10 - (R 83 3)) * (R 83 2))) F H := hP
                refine lv_aload hx hb dL_clerk_175 (lv_at hl 9 rfl) ?_
                refine lv_iconst (v := 5) hx hb dL_clerk_177 (by decide) ?_
                refine lv_iload hx hb dL_clerk_178 (lv_at hl 10 rfl) ?_
                refine lv_imul hx hb dL_clerk_180 ?_
                refine q_top (y := (nI (5 * w8))) (pk_mul 5 w8) ?_
                refine lv_iconst (v := 3) hx hb dL_clerk_181 (by decide) ?_
                refine lv_iadd hx hb dL_clerk_182 ?_
                refine q_top (y := (nI ((5 * w8) + 3))) (nI_add (5 * w8) 3) ?_
                refine lv_aload_n hx hb dL_clerk_183 rfl (lv_at hl 4 rfl) ?_
                refine lv_iconst (v := 2) hx hb dL_clerk_184 (by decide) ?_
                refine q_ildN hx hb hK hP 83 6 (ar_83) 2 dL_clerk_185 rfl (by omega) (by decide) ?_
                refine q_top (y := (R 83 2)) ((congrFun (sR_ne (by decide) _ _) _).trans (congrFun (sR_ne (by decide) _ _) _)) ?_
                refine q_istN hx hb hK hI hP hS 89 40 (ar_89) ((5 * w8) + 3) dL_clerk_186 rfl (by omega) (by decide) (fun H locs hP hS => ?_)
                have hP : WP D cI cS ad (sR (sR (sR R 89 (5 * w8) (x10 - (R 83 3))) 89 ((5 * w8) + 1) ((x10 - (R 83 3)) * (R 83 2))) 89 ((5 * w8) + 3) (R 83 2)) F H := hP
                refine lv_aload hx hb dL_clerk_187 (lv_at hl 8 rfl) ?_
                refine lv_iconst (v := 5) hx hb dL_clerk_189 (by decide) ?_
                refine lv_iload hx hb dL_clerk_190 (lv_at hl 10 rfl) ?_
                refine lv_imul hx hb dL_clerk_192 ?_
                refine q_top (y := (nI (5 * w8))) (pk_mul 5 w8) ?_
                refine lv_iconst (v := 2) hx hb dL_clerk_193 (by decide) ?_
                refine lv_iadd hx hb dL_clerk_194 ?_
                refine q_top (y := (nI ((5 * w8) + 2))) (nI_add (5 * w8) 2) ?_
                refine lv_iload hx hb dL_clerk_195 (lv_at hl 0 rfl) ?_
                refine lv_bipush (v := 19) hx hb dL_clerk_197 (by decide) ?_
                refine lv_icmp_le (tgt := 207) hx hb dL_clerk_199 (by decide) (fun c_199 => ?_) (fun c_199 => ?_)
                · refine lv_aload hx hb dL_clerk_207 (lv_at hl 8 rfl) ?_
                  refine lv_iconst (v := 5) hx hb dL_clerk_209 (by decide) ?_
                  refine lv_iload hx hb dL_clerk_210 (lv_at hl 10 rfl) ?_
                  refine lv_imul hx hb dL_clerk_212 ?_
                  refine q_top (y := (nI (5 * w8))) (pk_mul 5 w8) ?_
                  refine lv_iconst (v := 2) hx hb dL_clerk_213 (by decide) ?_
                  refine lv_iadd hx hb dL_clerk_214 ?_
                  refine q_top (y := (nI ((5 * w8) + 2))) (nI_add (5 * w8) 2) ?_
                  refine q_ildN hx hb hK hP 88 40 (ar_88) ((5 * w8) + 2) dL_clerk_215 rfl (by omega) (by decide) ?_
                  refine q_top (y := (R 88 ((5 * w8) + 2))) ((congrFun (sR_ne (by decide) _ _) _).trans ((congrFun (sR_ne (by decide) _ _) _).trans (congrFun (sR_ne (by decide) _ _) _))) ?_
                  refine q_istN hx hb hK hI hP hS 88 40 (ar_88) ((5 * w8) + 2) dL_clerk_216 rfl (by omega) (by decide) (fun H locs hP hS => ?_)
                  have hP : WP D cI cS ad (sR (sR (sR (sR R 89 (5 * w8) (x10 - (R 83 3))) 89 ((5 * w8) + 1) ((x10 - (R 83 3)) * (R 83 2))) 89 ((5 * w8) + 3) (R 83 2)) 88 ((5 * w8) + 2) (R 88 ((5 * w8) + 2))) F H := hP
                  refine lv_aload_n hx hb dL_clerk_217 rfl (lv_at hl 4 rfl) ?_
                  refine lv_iconst (v := 3) hx hb dL_clerk_218 (by decide) ?_
                  refine lv_dup2_11 hx hb dL_clerk_219 rfl rfl ?_
                  refine q_ildN hx hb hK hP 83 6 (ar_83) 3 dL_clerk_220 rfl (by omega) (by decide) ?_
                  refine q_top (y := (R 83 3)) ((congrFun (sR_ne (by decide) _ _) _).trans ((congrFun (sR_ne (by decide) _ _) _).trans ((congrFun (sR_ne (by decide) _ _) _).trans (congrFun (sR_ne (by decide) _ _) _)))) ?_
                  refine lv_iload hx hb dL_clerk_221 (lv_at hl 0 rfl) ?_
                  refine lv_iadd hx hb dL_clerk_223 ?_
                  refine q_istN hx hb hK hI hP hS 83 6 (ar_83) 3 dL_clerk_224 rfl (by omega) (by decide) (fun H locs hP hS => ?_)
                  have hP : WP D cI cS ad (sR (sR (sR (sR (sR R 89 (5 * w8) (x10 - (R 83 3))) 89 ((5 * w8) + 1) ((x10 - (R 83 3)) * (R 83 2))) 89 ((5 * w8) + 3) (R 83 2)) 88 ((5 * w8) + 2) (R 88 ((5 * w8) + 2))) 83 3 ((R 83 3) + (x10 - (R 83 3)))) F H := hP
                  refine lv_aload_n hx hb dL_clerk_225 rfl (lv_at hl 4 rfl) ?_
                  refine lv_iconst (v := 4) hx hb dL_clerk_226 (by decide) ?_
                  refine lv_dup2_11 hx hb dL_clerk_227 rfl rfl ?_
                  refine q_ildN hx hb hK hP 83 6 (ar_83) 4 dL_clerk_228 rfl (by omega) (by decide) ?_
                  refine q_top (y := (R 83 4)) ((sR_same_ne (by omega)).trans ((congrFun (sR_ne (by decide) _ _) _).trans ((congrFun (sR_ne (by decide) _ _) _).trans ((congrFun (sR_ne (by decide) _ _) _).trans (congrFun (sR_ne (by decide) _ _) _))))) ?_
                  refine lv_iload hx hb dL_clerk_229 (lv_at hl 0 rfl) ?_
                  refine lv_aload_n hx hb dL_clerk_231 rfl (lv_at hl 4 rfl) ?_
                  refine lv_iconst (v := 2) hx hb dL_clerk_232 (by decide) ?_
                  refine q_ildN hx hb hK hP 83 6 (ar_83) 2 dL_clerk_233 rfl (by omega) (by decide) ?_
                  refine q_top (y := (R 83 2)) ((sR_same_ne (by omega)).trans ((congrFun (sR_ne (by decide) _ _) _).trans ((congrFun (sR_ne (by decide) _ _) _).trans ((congrFun (sR_ne (by decide) _ _) _).trans (congrFun (sR_ne (by decide) _ _) _))))) ?_
                  refine lv_imul hx hb dL_clerk_234 ?_
                  refine lv_iadd hx hb dL_clerk_235 ?_
                  refine q_istN hx hb hK hI hP hS 83 6 (ar_83) 4 dL_clerk_236 rfl (by omega) (by decide) (fun H locs hP hS => ?_)
                  have hP : WP D cI cS ad (sR (sR (sR (sR (sR (sR R 89 (5 * w8) (x10 - (R 83 3))) 89 ((5 * w8) + 1) ((x10 - (R 83 3)) * (R 83 2))) 89 ((5 * w8) + 3) (R 83 2)) 88 ((5 * w8) + 2) (R 88 ((5 * w8) + 2))) 83 3 ((R 83 3) + (x10 - (R 83 3)))) 83 4 ((R 83 4) + ((x10 - (R 83 3)) * (R 83 2)))) F H := hP
                  refine lv_aload_n hx hb dL_clerk_237 rfl (lv_at hl 3 rfl) ?_
                  refine lv_iload hx hb dL_clerk_238 (lv_at hl 10 rfl) ?_
                  refine q_callI (va_runV (As := [.int (nI w8)]) (rest := []) ⟨hx, hb, hml, hown, hts⟩ (mX1_bill l D cI cS ad hI (sR (sR (sR (sR (sR (sR R 89 (5 * w8) (x10 - (R 83 3))) 89 ((5 * w8) + 1) ((x10 - (R 83 3)) * (R 83 2))) 89 ((5 * w8) + 3) (R 83 2)) 88 ((5 * w8) + 2) (R 88 ((5 * w8) + 2))) 83 3 ((R 83 3) + (x10 - (R 83 3)))) 83 4 ((R 83 4) + ((x10 - (R 83 3)) * (R 83 2)))) F (nI w8) o q ho hq hF0 hF1) (cwV 1 hts gL_clerk_X1_bill rfl rfl rfl (by decide +kernel) ⟨Nat.le_of_ble_eq_true rfl, Nat.le_of_ble_eq_true rfl⟩) (PW_preV (i := 0) (by decide) CC_0 rfl rfl hK hP) rfl rfl hl.1 rfl (lv_room (Nat.le_of_ble_eq_true rfl)) dL_clerk_240 ⟨Nat.zero_le _, Nat.zero_le _⟩) hS (fun H locs hP hS => ?_)
                  refine lv_iload hx hb dL_clerk_243 (lv_at hl 0 rfl) ?_
                  refine lv_icmp_ne (tgt := 252) hx hb dL_clerk_245 (by decide) (fun c_245 => ?_) (fun c_245 => ?_)
                  · refine lv_iconst (v := 0) hx hb dL_clerk_252 (by decide) ?_
                    have hX : (xL_clerk R F w8 p9 kw o q) = ((0 : Int32), ((xX1_bill (sR (sR (sR (sR (sR (sR R 89 (5 * w8) (x10 - (R 83 3))) 89 ((5 * w8) + 1) ((x10 - (R 83 3)) * (R 83 2))) 89 ((5 * w8) + 3) (R 83 2)) 88 ((5 * w8) + 2) (R 88 ((5 * w8) + 2))) 83 3 ((R 83 3) + (x10 - (R 83 3)))) 83 4 ((R 83 4) + ((x10 - (R 83 3)) * (R 83 2)))) F (nI w8) o q).2.1), ((xX1_bill (sR (sR (sR (sR (sR (sR R 89 (5 * w8) (x10 - (R 83 3))) 89 ((5 * w8) + 1) ((x10 - (R 83 3)) * (R 83 2))) 89 ((5 * w8) + 3) (R 83 2)) 88 ((5 * w8) + 2) (R 88 ((5 * w8) + 2))) 83 3 ((R 83 3) + (x10 - (R 83 3)))) 83 4 ((R 83 4) + ((x10 - (R 83 3)) * (R 83 2)))) F (nI w8) o q).2.2)) := by rw [← hsp, hL_clerk_76_z, if_neg c_126, if_pos c_140, if_pos c_199, if_neg c_245]
                    exact W.zret (v := (0 : Int32)) hx hb hr rfl (fun t ht hW => ⟨by rw [hX], by rw [hX, ht]; with_reducible exact hP, hS.F ht⟩) hS.2.2 dL_clerk_253
                  · refine lv_iconst (v := 1) hx hb dL_clerk_248 (by decide) ?_
                    refine lv_goto (tgt := 253) hx hb dL_clerk_249 (by decide) ?_
                    have hX : (xL_clerk R F w8 p9 kw o q) = ((1 : Int32), ((xX1_bill (sR (sR (sR (sR (sR (sR R 89 (5 * w8) (x10 - (R 83 3))) 89 ((5 * w8) + 1) ((x10 - (R 83 3)) * (R 83 2))) 89 ((5 * w8) + 3) (R 83 2)) 88 ((5 * w8) + 2) (R 88 ((5 * w8) + 2))) 83 3 ((R 83 3) + (x10 - (R 83 3)))) 83 4 ((R 83 4) + ((x10 - (R 83 3)) * (R 83 2)))) F (nI w8) o q).2.1), ((xX1_bill (sR (sR (sR (sR (sR (sR R 89 (5 * w8) (x10 - (R 83 3))) 89 ((5 * w8) + 1) ((x10 - (R 83 3)) * (R 83 2))) 89 ((5 * w8) + 3) (R 83 2)) 88 ((5 * w8) + 2) (R 88 ((5 * w8) + 2))) 83 3 ((R 83 3) + (x10 - (R 83 3)))) 83 4 ((R 83 4) + ((x10 - (R 83 3)) * (R 83 2)))) F (nI w8) o q).2.2)) := by rw [← hsp, hL_clerk_76_z, if_neg c_126, if_pos c_140, if_pos c_199, if_pos c_245]
                    exact W.zret (v := (1 : Int32)) hx hb hr rfl (fun t ht hW => ⟨by rw [hX], by rw [hX, ht]; with_reducible exact hP, hS.F ht⟩) hS.2.2 dL_clerk_253
                · refine lv_iload hx hb dL_clerk_202 (lv_at hl 0 rfl) ?_
                  refine lv_goto (tgt := 216) hx hb dL_clerk_204 (by decide) ?_
                  refine q_istN hx hb hK hI hP hS 88 40 (ar_88) ((5 * w8) + 2) dL_clerk_216 rfl (by omega) (by decide) (fun H locs hP hS => ?_)
                  have hP : WP D cI cS ad (sR (sR (sR (sR R 89 (5 * w8) (x10 - (R 83 3))) 89 ((5 * w8) + 1) ((x10 - (R 83 3)) * (R 83 2))) 89 ((5 * w8) + 3) (R 83 2)) 88 ((5 * w8) + 2) (x10 - (R 83 3))) F H := hP
                  refine lv_aload_n hx hb dL_clerk_217 rfl (lv_at hl 4 rfl) ?_
                  refine lv_iconst (v := 3) hx hb dL_clerk_218 (by decide) ?_
                  refine lv_dup2_11 hx hb dL_clerk_219 rfl rfl ?_
                  refine q_ildN hx hb hK hP 83 6 (ar_83) 3 dL_clerk_220 rfl (by omega) (by decide) ?_
                  refine q_top (y := (R 83 3)) ((congrFun (sR_ne (by decide) _ _) _).trans ((congrFun (sR_ne (by decide) _ _) _).trans ((congrFun (sR_ne (by decide) _ _) _).trans (congrFun (sR_ne (by decide) _ _) _)))) ?_
                  refine lv_iload hx hb dL_clerk_221 (lv_at hl 0 rfl) ?_
                  refine lv_iadd hx hb dL_clerk_223 ?_
                  refine q_istN hx hb hK hI hP hS 83 6 (ar_83) 3 dL_clerk_224 rfl (by omega) (by decide) (fun H locs hP hS => ?_)
                  have hP : WP D cI cS ad (sR (sR (sR (sR (sR R 89 (5 * w8) (x10 - (R 83 3))) 89 ((5 * w8) + 1) ((x10 - (R 83 3)) * (R 83 2))) 89 ((5 * w8) + 3) (R 83 2)) 88 ((5 * w8) + 2) (x10 - (R 83 3))) 83 3 ((R 83 3) + (x10 - (R 83 3)))) F H := hP
                  refine lv_aload_n hx hb dL_clerk_225 rfl (lv_at hl 4 rfl) ?_
                  refine lv_iconst (v := 4) hx hb dL_clerk_226 (by decide) ?_
                  refine lv_dup2_11 hx hb dL_clerk_227 rfl rfl ?_
                  refine q_ildN hx hb hK hP 83 6 (ar_83) 4 dL_clerk_228 rfl (by omega) (by decide) ?_
                  refine q_top (y := (R 83 4)) ((sR_same_ne (by omega)).trans ((congrFun (sR_ne (by decide) _ _) _).trans ((congrFun (sR_ne (by decide) _ _) _).trans ((congrFun (sR_ne (by decide) _ _) _).trans (congrFun (sR_ne (by decide) _ _) _))))) ?_
                  refine lv_iload hx hb dL_clerk_229 (lv_at hl 0 rfl) ?_
                  refine lv_aload_n hx hb dL_clerk_231 rfl (lv_at hl 4 rfl) ?_
                  refine lv_iconst (v := 2) hx hb dL_clerk_232 (by decide) ?_
                  refine q_ildN hx hb hK hP 83 6 (ar_83) 2 dL_clerk_233 rfl (by omega) (by decide) ?_
                  refine q_top (y := (R 83 2)) ((sR_same_ne (by omega)).trans ((congrFun (sR_ne (by decide) _ _) _).trans ((congrFun (sR_ne (by decide) _ _) _).trans ((congrFun (sR_ne (by decide) _ _) _).trans (congrFun (sR_ne (by decide) _ _) _))))) ?_
                  refine lv_imul hx hb dL_clerk_234 ?_
                  refine lv_iadd hx hb dL_clerk_235 ?_
                  refine q_istN hx hb hK hI hP hS 83 6 (ar_83) 4 dL_clerk_236 rfl (by omega) (by decide) (fun H locs hP hS => ?_)
                  have hP : WP D cI cS ad (sR (sR (sR (sR (sR (sR R 89 (5 * w8) (x10 - (R 83 3))) 89 ((5 * w8) + 1) ((x10 - (R 83 3)) * (R 83 2))) 89 ((5 * w8) + 3) (R 83 2)) 88 ((5 * w8) + 2) (x10 - (R 83 3))) 83 3 ((R 83 3) + (x10 - (R 83 3)))) 83 4 ((R 83 4) + ((x10 - (R 83 3)) * (R 83 2)))) F H := hP
                  refine lv_aload_n hx hb dL_clerk_237 rfl (lv_at hl 3 rfl) ?_
                  refine lv_iload hx hb dL_clerk_238 (lv_at hl 10 rfl) ?_
                  refine q_callI (va_runV (As := [.int (nI w8)]) (rest := []) ⟨hx, hb, hml, hown, hts⟩ (mX1_bill l D cI cS ad hI (sR (sR (sR (sR (sR (sR R 89 (5 * w8) (x10 - (R 83 3))) 89 ((5 * w8) + 1) ((x10 - (R 83 3)) * (R 83 2))) 89 ((5 * w8) + 3) (R 83 2)) 88 ((5 * w8) + 2) (x10 - (R 83 3))) 83 3 ((R 83 3) + (x10 - (R 83 3)))) 83 4 ((R 83 4) + ((x10 - (R 83 3)) * (R 83 2)))) F (nI w8) o q ho hq hF0 hF1) (cwV 1 hts gL_clerk_X1_bill rfl rfl rfl (by decide +kernel) ⟨Nat.le_of_ble_eq_true rfl, Nat.le_of_ble_eq_true rfl⟩) (PW_preV (i := 0) (by decide) CC_0 rfl rfl hK hP) rfl rfl hl.1 rfl (lv_room (Nat.le_of_ble_eq_true rfl)) dL_clerk_240 ⟨Nat.zero_le _, Nat.zero_le _⟩) hS (fun H locs hP hS => ?_)
                  refine lv_iload hx hb dL_clerk_243 (lv_at hl 0 rfl) ?_
                  refine lv_icmp_ne (tgt := 252) hx hb dL_clerk_245 (by decide) (fun c_245 => ?_) (fun c_245 => ?_)
                  · refine lv_iconst (v := 0) hx hb dL_clerk_252 (by decide) ?_
                    have hX : (xL_clerk R F w8 p9 kw o q) = ((0 : Int32), ((xX1_bill (sR (sR (sR (sR (sR (sR R 89 (5 * w8) (x10 - (R 83 3))) 89 ((5 * w8) + 1) ((x10 - (R 83 3)) * (R 83 2))) 89 ((5 * w8) + 3) (R 83 2)) 88 ((5 * w8) + 2) (x10 - (R 83 3))) 83 3 ((R 83 3) + (x10 - (R 83 3)))) 83 4 ((R 83 4) + ((x10 - (R 83 3)) * (R 83 2)))) F (nI w8) o q).2.1), ((xX1_bill (sR (sR (sR (sR (sR (sR R 89 (5 * w8) (x10 - (R 83 3))) 89 ((5 * w8) + 1) ((x10 - (R 83 3)) * (R 83 2))) 89 ((5 * w8) + 3) (R 83 2)) 88 ((5 * w8) + 2) (x10 - (R 83 3))) 83 3 ((R 83 3) + (x10 - (R 83 3)))) 83 4 ((R 83 4) + ((x10 - (R 83 3)) * (R 83 2)))) F (nI w8) o q).2.2)) := by rw [← hsp, hL_clerk_76_z, if_neg c_126, if_pos c_140, if_neg c_199, if_neg c_245]
                    exact W.zret (v := (0 : Int32)) hx hb hr rfl (fun t ht hW => ⟨by rw [hX], by rw [hX, ht]; with_reducible exact hP, hS.F ht⟩) hS.2.2 dL_clerk_253
                  · refine lv_iconst (v := 1) hx hb dL_clerk_248 (by decide) ?_
                    refine lv_goto (tgt := 253) hx hb dL_clerk_249 (by decide) ?_
                    have hX : (xL_clerk R F w8 p9 kw o q) = ((1 : Int32), ((xX1_bill (sR (sR (sR (sR (sR (sR R 89 (5 * w8) (x10 - (R 83 3))) 89 ((5 * w8) + 1) ((x10 - (R 83 3)) * (R 83 2))) 89 ((5 * w8) + 3) (R 83 2)) 88 ((5 * w8) + 2) (x10 - (R 83 3))) 83 3 ((R 83 3) + (x10 - (R 83 3)))) 83 4 ((R 83 4) + ((x10 - (R 83 3)) * (R 83 2)))) F (nI w8) o q).2.1), ((xX1_bill (sR (sR (sR (sR (sR (sR R 89 (5 * w8) (x10 - (R 83 3))) 89 ((5 * w8) + 1) ((x10 - (R 83 3)) * (R 83 2))) 89 ((5 * w8) + 3) (R 83 2)) 88 ((5 * w8) + 2) (x10 - (R 83 3))) 83 3 ((R 83 3) + (x10 - (R 83 3)))) 83 4 ((R 83 4) + ((x10 - (R 83 3)) * (R 83 2)))) F (nI w8) o q).2.2)) := by rw [← hsp, hL_clerk_76_z, if_neg c_126, if_pos c_140, if_neg c_199, if_pos c_245]
                    exact W.zret (v := (1 : Int32)) hx hb hr rfl (fun t ht hW => ⟨by rw [hX], by rw [hX, ht]; with_reducible exact hP, hS.F ht⟩) hS.2.2 dL_clerk_253
              · refine lv_iconst (v := 0) hx hb dL_clerk_143 (by decide) ?_
                refine lv_goto (tgt := 149) hx hb dL_clerk_144 (by decide) ?_
                refine lv_istore (lv' := [(9, .int (0 : Int32)), (11, .int (x10 - (R 83 3))), (10, .int x10), (0, .ref (ad 0)), (1, .ref (ad 83)), (2, .ref (ad 84)), (3, .ref (ad 86)), (4, .ref (ad 87)), (5, .ref (ad 88)), (6, .ref (ad 89)), (7, .int (nI w8)), (8, .int p9)]) hx hb dL_clerk_149 hl (by decide) rfl (fun ls hl => ?_)
                refine lv_aload hx hb dL_clerk_151 (lv_at hl 9 rfl) ?_
                refine lv_iconst (v := 5) hx hb dL_clerk_153 (by decide) ?_
                refine lv_iload hx hb dL_clerk_154 (lv_at hl 10 rfl) ?_
                refine lv_imul hx hb dL_clerk_156 ?_
                refine q_top (y := (nI (5 * w8))) (pk_mul 5 w8) ?_
                refine lv_iload hx hb dL_clerk_157 (lv_at hl 0 rfl) ?_
                refine q_istN hx hb hK hI hP hS 89 40 (ar_89) (5 * w8) dL_clerk_159 rfl (by omega) (by decide) (fun H locs hP hS => ?_)
                have hP : WP D cI cS ad (sR R 89 (5 * w8) (0 : Int32)) F H := hP
                refine lv_aload hx hb dL_clerk_160 (lv_at hl 9 rfl) ?_
                refine lv_iconst (v := 5) hx hb dL_clerk_162 (by decide) ?_
                refine lv_iload hx hb dL_clerk_163 (lv_at hl 10 rfl) ?_
                refine lv_imul hx hb dL_clerk_165 ?_
                refine q_top (y := (nI (5 * w8))) (pk_mul 5 w8) ?_
                refine lv_iconst (v := 1) hx hb dL_clerk_166 (by decide) ?_
                refine lv_iadd hx hb dL_clerk_167 ?_
                refine q_top (y := (nI ((5 * w8) + 1))) (nI_add (5 * w8) 1) ?_
                refine lv_iload hx hb dL_clerk_168 (lv_at hl 0 rfl) ?_
                refine lv_aload_n hx hb dL_clerk_170 rfl (lv_at hl 4 rfl) ?_
                refine lv_iconst (v := 2) hx hb dL_clerk_171 (by decide) ?_
                refine q_ildN hx hb hK hP 83 6 (ar_83) 2 dL_clerk_172 rfl (by omega) (by decide) ?_
                refine q_top (y := (R 83 2)) (congrFun (sR_ne (by decide) _ _) _) ?_
                refine lv_imul hx hb dL_clerk_173 ?_
                refine q_istN hx hb hK hI hP hS 89 40 (ar_89) ((5 * w8) + 1) dL_clerk_174 rfl (by omega) (by decide) (fun H locs hP hS => ?_)
                have hP : WP D cI cS ad (sR (sR R 89 (5 * w8) (0 : Int32)) 89 ((5 * w8) + 1) ((0 : Int32) * (R 83 2))) F H := hP
                refine lv_aload hx hb dL_clerk_175 (lv_at hl 9 rfl) ?_
                refine lv_iconst (v := 5) hx hb dL_clerk_177 (by decide) ?_
                refine lv_iload hx hb dL_clerk_178 (lv_at hl 10 rfl) ?_
                refine lv_imul hx hb dL_clerk_180 ?_
                refine q_top (y := (nI (5 * w8))) (pk_mul 5 w8) ?_
                refine lv_iconst (v := 3) hx hb dL_clerk_181 (by decide) ?_
                refine lv_iadd hx hb dL_clerk_182 ?_
                refine q_top (y := (nI ((5 * w8) + 3))) (nI_add (5 * w8) 3) ?_
                refine lv_aload_n hx hb dL_clerk_183 rfl (lv_at hl 4 rfl) ?_
                refine lv_iconst (v := 2) hx hb dL_clerk_184 (by decide) ?_
                refine q_ildN hx hb hK hP 83 6 (ar_83) 2 dL_clerk_185 rfl (by omega) (by decide) ?_
                refine q_top (y := (R 83 2)) ((congrFun (sR_ne (by decide) _ _) _).trans (congrFun (sR_ne (by decide) _ _) _)) ?_
                refine q_istN hx hb hK hI hP hS 89 40 (ar_89) ((5 * w8) + 3) dL_clerk_186 rfl (by omega) (by decide) (fun H locs hP hS => ?_)
                have hP : WP D cI cS ad (sR (sR (sR R 89 (5 * w8) (0 : Int32)) 89 ((5 * w8) + 1) ((0 : Int32) * (R 83 2))) 89 ((5 * w8) + 3) (R 83 2)) F H := hP
                refine lv_aload hx hb dL_clerk_187 (lv_at hl 8 rfl) ?_
                refine lv_iconst (v := 5) hx hb dL_clerk_189 (by decide) ?_
                refine lv_iload hx hb dL_clerk_190 (lv_at hl 10 rfl) ?_
                refine lv_imul hx hb dL_clerk_192 ?_
                refine q_top (y := (nI (5 * w8))) (pk_mul 5 w8) ?_
                refine lv_iconst (v := 2) hx hb dL_clerk_193 (by decide) ?_
                refine lv_iadd hx hb dL_clerk_194 ?_
                refine q_top (y := (nI ((5 * w8) + 2))) (nI_add (5 * w8) 2) ?_
                refine lv_iload hx hb dL_clerk_195 (lv_at hl 0 rfl) ?_
                refine lv_bipush (v := 19) hx hb dL_clerk_197 (by decide) ?_
                refine lv_icmp_le (tgt := 207) hx hb dL_clerk_199 (by decide) (fun c_199 => ?_) (fun c_199 => ?_)
                · refine lv_aload hx hb dL_clerk_207 (lv_at hl 8 rfl) ?_
                  refine lv_iconst (v := 5) hx hb dL_clerk_209 (by decide) ?_
                  refine lv_iload hx hb dL_clerk_210 (lv_at hl 10 rfl) ?_
                  refine lv_imul hx hb dL_clerk_212 ?_
                  refine q_top (y := (nI (5 * w8))) (pk_mul 5 w8) ?_
                  refine lv_iconst (v := 2) hx hb dL_clerk_213 (by decide) ?_
                  refine lv_iadd hx hb dL_clerk_214 ?_
                  refine q_top (y := (nI ((5 * w8) + 2))) (nI_add (5 * w8) 2) ?_
                  refine q_ildN hx hb hK hP 88 40 (ar_88) ((5 * w8) + 2) dL_clerk_215 rfl (by omega) (by decide) ?_
                  refine q_top (y := (R 88 ((5 * w8) + 2))) ((congrFun (sR_ne (by decide) _ _) _).trans ((congrFun (sR_ne (by decide) _ _) _).trans (congrFun (sR_ne (by decide) _ _) _))) ?_
                  refine q_istN hx hb hK hI hP hS 88 40 (ar_88) ((5 * w8) + 2) dL_clerk_216 rfl (by omega) (by decide) (fun H locs hP hS => ?_)
                  have hP : WP D cI cS ad (sR (sR (sR (sR R 89 (5 * w8) (0 : Int32)) 89 ((5 * w8) + 1) ((0 : Int32) * (R 83 2))) 89 ((5 * w8) + 3) (R 83 2)) 88 ((5 * w8) + 2) (R 88 ((5 * w8) + 2))) F H := hP
                  refine lv_aload_n hx hb dL_clerk_217 rfl (lv_at hl 4 rfl) ?_
                  refine lv_iconst (v := 3) hx hb dL_clerk_218 (by decide) ?_
                  refine lv_dup2_11 hx hb dL_clerk_219 rfl rfl ?_
                  refine q_ildN hx hb hK hP 83 6 (ar_83) 3 dL_clerk_220 rfl (by omega) (by decide) ?_
                  refine q_top (y := (R 83 3)) ((congrFun (sR_ne (by decide) _ _) _).trans ((congrFun (sR_ne (by decide) _ _) _).trans ((congrFun (sR_ne (by decide) _ _) _).trans (congrFun (sR_ne (by decide) _ _) _)))) ?_
                  refine lv_iload hx hb dL_clerk_221 (lv_at hl 0 rfl) ?_
                  refine lv_iadd hx hb dL_clerk_223 ?_
                  refine q_istN hx hb hK hI hP hS 83 6 (ar_83) 3 dL_clerk_224 rfl (by omega) (by decide) (fun H locs hP hS => ?_)
                  have hP : WP D cI cS ad (sR (sR (sR (sR (sR R 89 (5 * w8) (0 : Int32)) 89 ((5 * w8) + 1) ((0 : Int32) * (R 83 2))) 89 ((5 * w8) + 3) (R 83 2)) 88 ((5 * w8) + 2) (R 88 ((5 * w8) + 2))) 83 3 ((R 83 3) + (0 : Int32))) F H := hP
                  refine lv_aload_n hx hb dL_clerk_225 rfl (lv_at hl 4 rfl) ?_
                  refine lv_iconst (v := 4) hx hb dL_clerk_226 (by decide) ?_
                  refine lv_dup2_11 hx hb dL_clerk_227 rfl rfl ?_
                  refine q_ildN hx hb hK hP 83 6 (ar_83) 4 dL_clerk_228 rfl (by omega) (by decide) ?_
                  refine q_top (y := (R 83 4)) ((sR_same_ne (by omega)).trans ((congrFun (sR_ne (by decide) _ _) _).trans ((congrFun (sR_ne (by decide) _ _) _).trans ((congrFun (sR_ne (by decide) _ _) _).trans (congrFun (sR_ne (by decide) _ _) _))))) ?_
                  refine lv_iload hx hb dL_clerk_229 (lv_at hl 0 rfl) ?_
                  refine lv_aload_n hx hb dL_clerk_231 rfl (lv_at hl 4 rfl) ?_
                  refine lv_iconst (v := 2) hx hb dL_clerk_232 (by decide) ?_
                  refine q_ildN hx hb hK hP 83 6 (ar_83) 2 dL_clerk_233 rfl (by omega) (by decide) ?_
                  refine q_top (y := (R 83 2)) ((sR_same_ne (by omega)).trans ((congrFun (sR_ne (by decide) _ _) _).trans ((congrFun (sR_ne (by decide) _ _) _).trans ((congrFun (sR_ne (by decide) _ _) _).trans (congrFun (sR_ne (by decide) _ _) _))))) ?_
                  refine lv_imul hx hb dL_clerk_234 ?_
                  refine lv_iadd hx hb dL_clerk_235 ?_
                  refine q_istN hx hb hK hI hP hS 83 6 (ar_83) 4 dL_clerk_236 rfl (by omega) (by decide) (fun H locs hP hS => ?_)
                  have hP : WP D cI cS ad (sR (sR (sR (sR (sR (sR R 89 (5 * w8) (0 : Int32)) 89 ((5 * w8) + 1) ((0 : Int32) * (R 83 2))) 89 ((5 * w8) + 3) (R 83 2)) 88 ((5 * w8) + 2) (R 88 ((5 * w8) + 2))) 83 3 ((R 83 3) + (0 : Int32))) 83 4 ((R 83 4) + ((0 : Int32) * (R 83 2)))) F H := hP
                  refine lv_aload_n hx hb dL_clerk_237 rfl (lv_at hl 3 rfl) ?_
                  refine lv_iload hx hb dL_clerk_238 (lv_at hl 10 rfl) ?_
                  refine q_callI (va_runV (As := [.int (nI w8)]) (rest := []) ⟨hx, hb, hml, hown, hts⟩ (mX1_bill l D cI cS ad hI (sR (sR (sR (sR (sR (sR R 89 (5 * w8) (0 : Int32)) 89 ((5 * w8) + 1) ((0 : Int32) * (R 83 2))) 89 ((5 * w8) + 3) (R 83 2)) 88 ((5 * w8) + 2) (R 88 ((5 * w8) + 2))) 83 3 ((R 83 3) + (0 : Int32))) 83 4 ((R 83 4) + ((0 : Int32) * (R 83 2)))) F (nI w8) o q ho hq hF0 hF1) (cwV 1 hts gL_clerk_X1_bill rfl rfl rfl (by decide +kernel) ⟨Nat.le_of_ble_eq_true rfl, Nat.le_of_ble_eq_true rfl⟩) (PW_preV (i := 0) (by decide) CC_0 rfl rfl hK hP) rfl rfl hl.1 rfl (lv_room (Nat.le_of_ble_eq_true rfl)) dL_clerk_240 ⟨Nat.zero_le _, Nat.zero_le _⟩) hS (fun H locs hP hS => ?_)
                  refine lv_iload hx hb dL_clerk_243 (lv_at hl 0 rfl) ?_
                  refine lv_icmp_ne (tgt := 252) hx hb dL_clerk_245 (by decide) (fun c_245 => ?_) (fun c_245 => ?_)
                  · refine lv_iconst (v := 0) hx hb dL_clerk_252 (by decide) ?_
                    have hX : (xL_clerk R F w8 p9 kw o q) = ((0 : Int32), ((xX1_bill (sR (sR (sR (sR (sR (sR R 89 (5 * w8) (0 : Int32)) 89 ((5 * w8) + 1) ((0 : Int32) * (R 83 2))) 89 ((5 * w8) + 3) (R 83 2)) 88 ((5 * w8) + 2) (R 88 ((5 * w8) + 2))) 83 3 ((R 83 3) + (0 : Int32))) 83 4 ((R 83 4) + ((0 : Int32) * (R 83 2)))) F (nI w8) o q).2.1), ((xX1_bill (sR (sR (sR (sR (sR (sR R 89 (5 * w8) (0 : Int32)) 89 ((5 * w8) + 1) ((0 : Int32) * (R 83 2))) 89 ((5 * w8) + 3) (R 83 2)) 88 ((5 * w8) + 2) (R 88 ((5 * w8) + 2))) 83 3 ((R 83 3) + (0 : Int32))) 83 4 ((R 83 4) + ((0 : Int32) * (R 83 2)))) F (nI w8) o q).2.2)) := by rw [← hsp, hL_clerk_76_z, if_neg c_126, if_neg c_140, if_neg c_245]
                    exact W.zret (v := (0 : Int32)) hx hb hr rfl (fun t ht hW => ⟨by rw [hX], by rw [hX, ht]; with_reducible exact hP, hS.F ht⟩) hS.2.2 dL_clerk_253
                  · refine lv_iconst (v := 1) hx hb dL_clerk_248 (by decide) ?_
                    refine lv_goto (tgt := 253) hx hb dL_clerk_249 (by decide) ?_
                    have hX : (xL_clerk R F w8 p9 kw o q) = ((1 : Int32), ((xX1_bill (sR (sR (sR (sR (sR (sR R 89 (5 * w8) (0 : Int32)) 89 ((5 * w8) + 1) ((0 : Int32) * (R 83 2))) 89 ((5 * w8) + 3) (R 83 2)) 88 ((5 * w8) + 2) (R 88 ((5 * w8) + 2))) 83 3 ((R 83 3) + (0 : Int32))) 83 4 ((R 83 4) + ((0 : Int32) * (R 83 2)))) F (nI w8) o q).2.1), ((xX1_bill (sR (sR (sR (sR (sR (sR R 89 (5 * w8) (0 : Int32)) 89 ((5 * w8) + 1) ((0 : Int32) * (R 83 2))) 89 ((5 * w8) + 3) (R 83 2)) 88 ((5 * w8) + 2) (R 88 ((5 * w8) + 2))) 83 3 ((R 83 3) + (0 : Int32))) 83 4 ((R 83 4) + ((0 : Int32) * (R 83 2)))) F (nI w8) o q).2.2)) := by rw [← hsp, hL_clerk_76_z, if_neg c_126, if_neg c_140, if_pos c_245]
                    exact W.zret (v := (1 : Int32)) hx hb hr rfl (fun t ht hW => ⟨by rw [hX], by rw [hX, ht]; with_reducible exact hP, hS.F ht⟩) hS.2.2 dL_clerk_253
                · exact absurd (by decide) c_199
          · exact absurd (nI_le (a := 24) (b := k) (by omega) (by omega)) c_80
        · intro n ih H locs ls hz
          obtain ⟨k, x10, hkn, hsp, hP, hS, hl⟩ := hz
          refine lv_iload hx hb dL_clerk_76 (lv_at hl 0 rfl) ?_
          refine lv_bipush (v := 24) hx hb dL_clerk_78 (by decide) ?_
          refine lv_icmp_ge (tgt := 114) hx hb dL_clerk_80 (by decide) (fun c_80 => ?_) (fun c_80 => ?_)
          · exact absurd c_80 (nI_ge (a := k) (b := 24) (by omega) (by omega))
          · refine lv_iload hx hb dL_clerk_83 (lv_at hl 1 rfl) ?_
            refine lv_aload_n hx hb dL_clerk_85 rfl (lv_at hl 4 rfl) ?_
            refine lv_aload hx hb dL_clerk_86 (lv_at hl 8 rfl) ?_
            refine lv_iload hx hb dL_clerk_88 (lv_at hl 0 rfl) ?_
            refine lv_iconst (v := 0) hx hb dL_clerk_90 (by decide) ?_
            refine lv_iconst (v := -1) hx hb dL_clerk_91 (by decide) ?_
            refine q_callS (va_runS (As := [.ref (ad 83), .ref (ad 88), .int (nI k), .int (nI 0), .int (-1 : Int32)]) (rest := [.int x10]) ⟨hx, hb, hml, hown, hts⟩ (mL_gets l D cI cS ad hI R F (nI k) 0 (-1 : Int32) kw (by omega) hkw hW) (va_cwS 5 hts gL_clerk_L_gets rfl rfl rfl (by decide +kernel) ⟨Nat.le_of_ble_eq_true rfl, Nat.le_of_ble_eq_true rfl⟩) (PW_preS hK hP) rfl rfl hl.1 rfl (lv_room (Nat.le_of_ble_eq_true rfl)) dL_clerk_92 ⟨Nat.zero_le _, Nat.zero_le _⟩) ?_
            refine lv_aload_n hx hb dL_clerk_95 rfl (lv_at hl 5 rfl) ?_
            refine lv_iload hx hb dL_clerk_96 (lv_at hl 0 rfl) ?_
            refine q_ildN hx hb hK hP 84 24 (ar_84) k dL_clerk_98 rfl (by omega) (by decide) ?_
            refine lv_iadd hx hb dL_clerk_99 ?_
            refine lv_aload_n hx hb dL_clerk_100 rfl (lv_at hl 6 rfl) ?_
            refine lv_iload hx hb dL_clerk_101 (lv_at hl 0 rfl) ?_
            refine q_ildN hx hb hK hP 86 24 (ar_86) k dL_clerk_103 rfl (by omega) (by decide) ?_
            refine lv_isub hx hb dL_clerk_104 ?_
            refine lv_iadd hx hb dL_clerk_105 ?_
            refine lv_istore (lv' := [(10, .int (x10 + (((xL_gets (R 83) (R 88) (nI k) 0 (-1 : Int32) kw) + (R 84 k)) - (R 86 k)))), (11, .int (nI k)), (9, .int (((xL_estimate (R 83) (R 84) (R 86) (R 88) w8 kw) * (xL_certainty (R 83) (R 87) (R 88) w8)) / (100 : Int32))), (0, .ref (ad 0)), (1, .ref (ad 83)), (2, .ref (ad 84)), (3, .ref (ad 86)), (4, .ref (ad 87)), (5, .ref (ad 88)), (6, .ref (ad 89)), (7, .int (nI w8)), (8, .int p9)]) hx hb dL_clerk_106 hl (by decide) rfl (fun ls hl => ?_)
            refine lv_iinc (v := (nI (k + 1))) (lv' := [(11, .int (nI (k + 1))), (10, .int (x10 + (((xL_gets (R 83) (R 88) (nI k) 0 (-1 : Int32) kw) + (R 84 k)) - (R 86 k)))), (9, .int (((xL_estimate (R 83) (R 84) (R 86) (R 88) w8 kw) * (xL_certainty (R 83) (R 87) (R 88) w8)) / (100 : Int32))), (0, .ref (ad 0)), (1, .ref (ad 83)), (2, .ref (ad 84)), (3, .ref (ad 86)), (4, .ref (ad 87)), (5, .ref (ad 88)), (6, .ref (ad 89)), (7, .int (nI w8)), (8, .int p9)]) hx hb dL_clerk_108 hl (k := 1) rfl (nI_1 k) (by decide) rfl (fun ls hl => ?_)
            refine lv_goto (tgt := 76) hx hb dL_clerk_111 (by decide) ?_
            exact ih _ _ _ ⟨(k + 1), (x10 + (((xL_gets (R 83) (R 88) (nI k) 0 (-1 : Int32) kw) + (R 84 k)) - (R 86 k))), by omega, by rw [← hsp, hL_clerk_76_s], hP, hS, lv_sub hl [0, 1, 2, 3, 4, 5, 6, 7, 8, 9, 10, 11] rfl⟩
      · refine lv_aload_n hx hb dL_clerk_27 rfl (lv_at hl 0 rfl) ?_
        refine lv_iload hx hb dL_clerk_28 (lv_at hl 7 rfl) ?_
        refine q_callI (va_runV (As := [.int (nI w8)]) (rest := []) ⟨hx, hb, hml, hown, hts⟩ (mX1_bill l D cI cS ad hI R F (nI w8) o q ho hq hF0 hF1) (cwV 1 hts gL_clerk_X1_bill rfl rfl rfl (by decide +kernel) ⟨Nat.le_of_ble_eq_true rfl, Nat.le_of_ble_eq_true rfl⟩) (PW_preV (i := 0) (by decide) CC_0 rfl rfl hK hP) rfl rfl hl.1 rfl (lv_room (Nat.le_of_ble_eq_true rfl)) dL_clerk_30 ⟨Nat.zero_le _, Nat.zero_le _⟩) hS (fun H locs hP hS => ?_)
        refine lv_ldc (v := -100002) hx hb hown lk33 dL_clerk_33 ?_
        refine lv_icmp_ne (tgt := 42) hx hb dL_clerk_35 (by decide) (fun c_35 => ?_) (fun c_35 => ?_)
        · refine lv_iconst (v := 0) hx hb dL_clerk_42 (by decide) ?_
          have hX : (xL_clerk R F w8 p9 kw o q) = ((0 : Int32), ((xX1_bill R F (nI w8) o q).2.1), ((xX1_bill R F (nI w8) o q).2.2)) := by unfold xL_clerk; rw [if_neg c_2, if_neg c_14, if_neg c_24, if_neg c_35]
          exact W.zret (v := (0 : Int32)) hx hb hr rfl (fun t ht hW => ⟨by rw [hX], by rw [hX, ht]; with_reducible exact hP, hS.F ht⟩) hS.2.2 dL_clerk_43
        · refine lv_iconst (v := 1) hx hb dL_clerk_38 (by decide) ?_
          refine lv_goto (tgt := 43) hx hb dL_clerk_39 (by decide) ?_
          have hX : (xL_clerk R F w8 p9 kw o q) = ((1 : Int32), ((xX1_bill R F (nI w8) o q).2.1), ((xX1_bill R F (nI w8) o q).2.2)) := by unfold xL_clerk; rw [if_neg c_2, if_neg c_14, if_neg c_24, if_pos c_35]
          exact W.zret (v := (1 : Int32)) hx hb hr rfl (fun t ht hW => ⟨by rw [hX], by rw [hX, ht]; with_reducible exact hP, hS.F ht⟩) hS.2.2 dL_clerk_43

