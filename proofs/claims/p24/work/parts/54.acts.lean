theorem ge_nlt {x : Int32} (h : 0 ≤ x) : ¬ x < 0 := fun q => by
  have h1 := Int32.le_iff_toInt_le.mp h
  have h2 := Int32.lt_iff_toInt_lt.mp q
  omega
def hL_acts_920 (R F : Nat → Nat → Int32) (p9 : Int32) (vn : Nat) (wy : Nat) (kw : Nat) (o : Nat) (q : Nat) : Nat → Nat → (Nat → Nat → Int32) → Int32 × (Nat → Nat → Int32) × (Nat → Nat → Int32)
  | 0, k, R1 => (if ((xX1_pass R1 F (nI (1 + (vn % 4))) o q).1) = (((xX1_pass R1 F (nI (1 + (vn % 4))) o q).2.1) 83 0) then ((1 : Int32), ((xX1_pass R1 F (nI (1 + (vn % 4))) o q).2.1), ((xX1_pass R1 F (nI (1 + (vn % 4))) o q).2.2)) else ((0 : Int32), ((xX1_pass R1 F (nI (1 + (vn % 4))) o q).2.1), ((xX1_pass R1 F (nI (1 + (vn % 4))) o q).2.2)))
  | n + 1, k, R1 => (hL_acts_920 R F p9 vn wy kw o q n (k + 1) (sR R1 84 k ((R1 84 k) + ((R1 85 k) * (nI (1 + (vn % 4)))))))
theorem hL_acts_920_z (R F : Nat → Nat → Int32) (p9 : Int32) (vn : Nat) (wy : Nat) (kw : Nat) (o : Nat) (q : Nat) (k : Nat) (R1 : Nat → Nat → Int32) : hL_acts_920 R F p9 vn wy kw o q 0 k R1 = (if ((xX1_pass R1 F (nI (1 + (vn % 4))) o q).1) = (((xX1_pass R1 F (nI (1 + (vn % 4))) o q).2.1) 83 0) then ((1 : Int32), ((xX1_pass R1 F (nI (1 + (vn % 4))) o q).2.1), ((xX1_pass R1 F (nI (1 + (vn % 4))) o q).2.2)) else ((0 : Int32), ((xX1_pass R1 F (nI (1 + (vn % 4))) o q).2.1), ((xX1_pass R1 F (nI (1 + (vn % 4))) o q).2.2))) := rfl
theorem hL_acts_920_s (R F : Nat → Nat → Int32) (p9 : Int32) (vn : Nat) (wy : Nat) (kw : Nat) (o : Nat) (q : Nat) (n : Nat) (k : Nat) (R1 : Nat → Nat → Int32) : hL_acts_920 R F p9 vn wy kw o q (n + 1) k R1 = (hL_acts_920 R F p9 vn wy kw o q n (k + 1) (sR R1 84 k ((R1 84 k) + ((R1 85 k) * (nI (1 + (vn % 4))))))) := rfl
def hL_acts_920b (R F : Nat → Nat → Int32) (p9 : Int32) (vn : Nat) (wy : Nat) (kw : Nat) (o : Nat) (q : Nat) : Nat → Nat → (Nat → Nat → Int32) → Int32 × (Nat → Nat → Int32) × (Nat → Nat → Int32)
  | 0, k, R1 => (if ((xX1_pass R1 F (nI (1 + (vn % 60))) o q).1) = (((xX1_pass R1 F (nI (1 + (vn % 60))) o q).2.1) 83 0) then ((1 : Int32), ((xX1_pass R1 F (nI (1 + (vn % 60))) o q).2.1), ((xX1_pass R1 F (nI (1 + (vn % 60))) o q).2.2)) else ((0 : Int32), ((xX1_pass R1 F (nI (1 + (vn % 60))) o q).2.1), ((xX1_pass R1 F (nI (1 + (vn % 60))) o q).2.2)))
  | n + 1, k, R1 => (hL_acts_920b R F p9 vn wy kw o q n (k + 1) (sR R1 84 k ((R1 84 k) + ((R1 85 k) * (nI (1 + (vn % 60)))))))
theorem hL_acts_920b_z (R F : Nat → Nat → Int32) (p9 : Int32) (vn : Nat) (wy : Nat) (kw : Nat) (o : Nat) (q : Nat) (k : Nat) (R1 : Nat → Nat → Int32) : hL_acts_920b R F p9 vn wy kw o q 0 k R1 = (if ((xX1_pass R1 F (nI (1 + (vn % 60))) o q).1) = (((xX1_pass R1 F (nI (1 + (vn % 60))) o q).2.1) 83 0) then ((1 : Int32), ((xX1_pass R1 F (nI (1 + (vn % 60))) o q).2.1), ((xX1_pass R1 F (nI (1 + (vn % 60))) o q).2.2)) else ((0 : Int32), ((xX1_pass R1 F (nI (1 + (vn % 60))) o q).2.1), ((xX1_pass R1 F (nI (1 + (vn % 60))) o q).2.2))) := rfl
theorem hL_acts_920b_s (R F : Nat → Nat → Int32) (p9 : Int32) (vn : Nat) (wy : Nat) (kw : Nat) (o : Nat) (q : Nat) (n : Nat) (k : Nat) (R1 : Nat → Nat → Int32) : hL_acts_920b R F p9 vn wy kw o q (n + 1) k R1 = (hL_acts_920b R F p9 vn wy kw o q n (k + 1) (sR R1 84 k ((R1 84 k) + ((R1 85 k) * (nI (1 + (vn % 60))))))) := rfl
def cutL_acts_859 (R F : Nat → Nat → Int32) (p9 : Int32) (vn : Nat) (wy : Nat) (kw : Nat) (o : Nat) (q : Nat) : Int32 × (Nat → Nat → Int32) × (Nat → Nat → Int32) :=
  (if (nI (vn % 9)) = (0 : Int32) then (if ((R 83 0) + (nI (1 + (vn % 60)))) ≤ (2000 : Int32) then (hL_acts_920b R F p9 vn wy kw o q 24 0 (sR R 83 0 ((R 83 0) + (nI (1 + (vn % 60)))))) else (if ((xX1_pass R F (nI (1 + (vn % 60))) o q).1) = (-100002 : Int32) then ((1 : Int32), ((xX1_pass R F (nI (1 + (vn % 60))) o q).2.1), ((xX1_pass R F (nI (1 + (vn % 60))) o q).2.2)) else ((0 : Int32), ((xX1_pass R F (nI (1 + (vn % 60))) o q).2.1), ((xX1_pass R F (nI (1 + (vn % 60))) o q).2.2)))) else (if ((R 83 0) + (nI (1 + (vn % 4)))) ≤ (2000 : Int32) then (hL_acts_920 R F p9 vn wy kw o q 24 0 (sR R 83 0 ((R 83 0) + (nI (1 + (vn % 4)))))) else (if ((xX1_pass R F (nI (1 + (vn % 4))) o q).1) = (-100002 : Int32) then ((1 : Int32), ((xX1_pass R F (nI (1 + (vn % 4))) o q).2.1), ((xX1_pass R F (nI (1 + (vn % 4))) o q).2.2)) else ((0 : Int32), ((xX1_pass R F (nI (1 + (vn % 4))) o q).2.1), ((xX1_pass R F (nI (1 + (vn % 4))) o q).2.2)))))
def hL_acts_744 (R F : Nat → Nat → Int32) (p9 : Int32) (vn : Nat) (wy : Nat) (kw : Nat) (o : Nat) (q : Nat) : Nat → Nat → Int32 → Int32 × (Nat → Nat → Int32) × (Nat → Nat → Int32)
  | 0, k, x13 => (if x13 = (0 : Int32) then (if ((xX1_tare R F (nI (vn % 24)) o q).1) = (-100002 : Int32) then ((1 : Int32), ((xX1_tare R F (nI (vn % 24)) o q).2.1), ((xX1_tare R F (nI (vn % 24)) o q).2.2)) else ((0 : Int32), ((xX1_tare R F (nI (vn % 24)) o q).2.1), ((xX1_tare R F (nI (vn % 24)) o q).2.2))) else (if ((xX1_tare (sR (sR R 86 (vn % 24) (R 84 (vn % 24))) 87 (vn % 24) (R 83 0)) F (nI (vn % 24)) o q).1) = (((xX1_tare (sR (sR R 86 (vn % 24) (R 84 (vn % 24))) 87 (vn % 24) (R 83 0)) F (nI (vn % 24)) o q).2.1) 84 (vn % 24)) then ((1 : Int32), ((xX1_tare (sR (sR R 86 (vn % 24) (R 84 (vn % 24))) 87 (vn % 24) (R 83 0)) F (nI (vn % 24)) o q).2.1), ((xX1_tare (sR (sR R 86 (vn % 24) (R 84 (vn % 24))) 87 (vn % 24) (R 83 0)) F (nI (vn % 24)) o q).2.2)) else ((0 : Int32), ((xX1_tare (sR (sR R 86 (vn % 24) (R 84 (vn % 24))) 87 (vn % 24) (R 83 0)) F (nI (vn % 24)) o q).2.1), ((xX1_tare (sR (sR R 86 (vn % 24) (R 84 (vn % 24))) 87 (vn % 24) (R 83 0)) F (nI (vn % 24)) o q).2.2))))
  | n + 1, k, x13 => (if x13 = (0 : Int32) then (hL_acts_744 R F p9 vn wy kw o q n (k + 1) (0 : Int32)) else (if (R 88 ((5 * k) + 1)) < (0 : Int32) then (hL_acts_744 R F p9 vn wy kw o q n (k + 1) (1 : Int32)) else (if (xL_share (8 : Int32) (R 88 ((5 * k) + 1)) (nI (vn % 24))) = (0 : Int32) then (hL_acts_744 R F p9 vn wy kw o q n (k + 1) (1 : Int32)) else (hL_acts_744 R F p9 vn wy kw o q n (k + 1) (0 : Int32)))))
theorem hL_acts_744_z (R F : Nat → Nat → Int32) (p9 : Int32) (vn : Nat) (wy : Nat) (kw : Nat) (o : Nat) (q : Nat) (k : Nat) (x13 : Int32) : hL_acts_744 R F p9 vn wy kw o q 0 k x13 = (if x13 = (0 : Int32) then (if ((xX1_tare R F (nI (vn % 24)) o q).1) = (-100002 : Int32) then ((1 : Int32), ((xX1_tare R F (nI (vn % 24)) o q).2.1), ((xX1_tare R F (nI (vn % 24)) o q).2.2)) else ((0 : Int32), ((xX1_tare R F (nI (vn % 24)) o q).2.1), ((xX1_tare R F (nI (vn % 24)) o q).2.2))) else (if ((xX1_tare (sR (sR R 86 (vn % 24) (R 84 (vn % 24))) 87 (vn % 24) (R 83 0)) F (nI (vn % 24)) o q).1) = (((xX1_tare (sR (sR R 86 (vn % 24) (R 84 (vn % 24))) 87 (vn % 24) (R 83 0)) F (nI (vn % 24)) o q).2.1) 84 (vn % 24)) then ((1 : Int32), ((xX1_tare (sR (sR R 86 (vn % 24) (R 84 (vn % 24))) 87 (vn % 24) (R 83 0)) F (nI (vn % 24)) o q).2.1), ((xX1_tare (sR (sR R 86 (vn % 24) (R 84 (vn % 24))) 87 (vn % 24) (R 83 0)) F (nI (vn % 24)) o q).2.2)) else ((0 : Int32), ((xX1_tare (sR (sR R 86 (vn % 24) (R 84 (vn % 24))) 87 (vn % 24) (R 83 0)) F (nI (vn % 24)) o q).2.1), ((xX1_tare (sR (sR R 86 (vn % 24) (R 84 (vn % 24))) 87 (vn % 24) (R 83 0)) F (nI (vn % 24)) o q).2.2)))) := rfl
theorem hL_acts_744_s (R F : Nat → Nat → Int32) (p9 : Int32) (vn : Nat) (wy : Nat) (kw : Nat) (o : Nat) (q : Nat) (n : Nat) (k : Nat) (x13 : Int32) : hL_acts_744 R F p9 vn wy kw o q (n + 1) k x13 = (if x13 = (0 : Int32) then (hL_acts_744 R F p9 vn wy kw o q n (k + 1) (0 : Int32)) else (if (R 88 ((5 * k) + 1)) < (0 : Int32) then (hL_acts_744 R F p9 vn wy kw o q n (k + 1) (1 : Int32)) else (if (xL_share (8 : Int32) (R 88 ((5 * k) + 1)) (nI (vn % 24))) = (0 : Int32) then (hL_acts_744 R F p9 vn wy kw o q n (k + 1) (1 : Int32)) else (hL_acts_744 R F p9 vn wy kw o q n (k + 1) (0 : Int32))))) := rfl
def cutL_acts_738 (R F : Nat → Nat → Int32) (p9 : Int32) (vn : Nat) (wy : Nat) (kw : Nat) (o : Nat) (q : Nat) : Int32 × (Nat → Nat → Int32) × (Nat → Nat → Int32) :=
  (hL_acts_744 R F p9 vn wy kw o q kw 0 (1 : Int32))
def cutL_acts_702 (R F : Nat → Nat → Int32) (p9 : Int32) (vn : Nat) (wy : Nat) (kw : Nat) (o : Nat) (q : Nat) : Int32 × (Nat → Nat → Int32) × (Nat → Nat → Int32) :=
  (if (18 : Int32) ≤ (nI wy) then (((xL_clerk R F ((vn / 24) % kw) (0 : Int32) kw o q).1), ((xL_clerk R F ((vn / 24) % kw) (0 : Int32) kw o q).2.1), ((xL_clerk R F ((vn / 24) % kw) (0 : Int32) kw o q).2.2)) else (((xL_clerk R F ((vn / 24) % kw) (1 : Int32) kw o q).1), ((xL_clerk R F ((vn / 24) % kw) (1 : Int32) kw o q).2.1), ((xL_clerk R F ((vn / 24) % kw) (1 : Int32) kw o q).2.2)))
def cutL_acts_573 (R F : Nat → Nat → Int32) (p9 : Int32) (vn : Nat) (wy : Nat) (kw : Nat) (o : Nat) (q : Nat) : Int32 × (Nat → Nat → Int32) × (Nat → Nat → Int32) :=
  (if (0 : Int32) ≤ (R 88 ((5 * ((vn / 24) % kw)) + 1)) then (if (nI ((xL_who (R 83) (R 88) (R 88 ((5 * ((vn / 24) % kw)) + 1)) 3 kw)).toNatClampNeg) = (nI ((vn / 24) % kw)) then (if ((xX1_leave (sR (sR (sR (sR R 88 ((5 * ((xL_who (R 83) (R 88) (R 88 ((5 * ((vn / 24) % kw)) + 1)) 3 kw)).toNatClampNeg) + 3) (R 88 ((5 * ((vn / 24) % kw)) + 3))) 88 ((5 * ((vn / 24) % kw)) + 1) (-1 : Int32)) 88 ((5 * ((vn / 24) % kw)) + 2) (-1 : Int32)) 88 ((5 * ((vn / 24) % kw)) + 3) (-1 : Int32)) F (nI ((vn / 24) % kw)) o q).1) = (1 : Int32) then ((1 : Int32), ((xX1_leave (sR (sR (sR (sR R 88 ((5 * ((xL_who (R 83) (R 88) (R 88 ((5 * ((vn / 24) % kw)) + 1)) 3 kw)).toNatClampNeg) + 3) (R 88 ((5 * ((vn / 24) % kw)) + 3))) 88 ((5 * ((vn / 24) % kw)) + 1) (-1 : Int32)) 88 ((5 * ((vn / 24) % kw)) + 2) (-1 : Int32)) 88 ((5 * ((vn / 24) % kw)) + 3) (-1 : Int32)) F (nI ((vn / 24) % kw)) o q).2.1), ((xX1_leave (sR (sR (sR (sR R 88 ((5 * ((xL_who (R 83) (R 88) (R 88 ((5 * ((vn / 24) % kw)) + 1)) 3 kw)).toNatClampNeg) + 3) (R 88 ((5 * ((vn / 24) % kw)) + 3))) 88 ((5 * ((vn / 24) % kw)) + 1) (-1 : Int32)) 88 ((5 * ((vn / 24) % kw)) + 2) (-1 : Int32)) 88 ((5 * ((vn / 24) % kw)) + 3) (-1 : Int32)) F (nI ((vn / 24) % kw)) o q).2.2)) else ((0 : Int32), ((xX1_leave (sR (sR (sR (sR R 88 ((5 * ((xL_who (R 83) (R 88) (R 88 ((5 * ((vn / 24) % kw)) + 1)) 3 kw)).toNatClampNeg) + 3) (R 88 ((5 * ((vn / 24) % kw)) + 3))) 88 ((5 * ((vn / 24) % kw)) + 1) (-1 : Int32)) 88 ((5 * ((vn / 24) % kw)) + 2) (-1 : Int32)) 88 ((5 * ((vn / 24) % kw)) + 3) (-1 : Int32)) F (nI ((vn / 24) % kw)) o q).2.1), ((xX1_leave (sR (sR (sR (sR R 88 ((5 * ((xL_who (R 83) (R 88) (R 88 ((5 * ((vn / 24) % kw)) + 1)) 3 kw)).toNatClampNeg) + 3) (R 88 ((5 * ((vn / 24) % kw)) + 3))) 88 ((5 * ((vn / 24) % kw)) + 1) (-1 : Int32)) 88 ((5 * ((vn / 24) % kw)) + 2) (-1 : Int32)) 88 ((5 * ((vn / 24) % kw)) + 3) (-1 : Int32)) F (nI ((vn / 24) % kw)) o q).2.2))) else (if ((xX1_leave (sR (sR (sR (sR R 88 ((5 * ((xL_who (R 83) (R 88) (R 88 ((5 * ((vn / 24) % kw)) + 1)) 3 kw)).toNatClampNeg) + 3) (R 88 ((5 * ((vn / 24) % kw)) + 3))) 88 ((5 * ((vn / 24) % kw)) + 1) (-1 : Int32)) 88 ((5 * ((vn / 24) % kw)) + 2) (-1 : Int32)) 88 ((5 * ((vn / 24) % kw)) + 3) (-1 : Int32)) F (nI ((vn / 24) % kw)) o q).1) = (0 : Int32) then ((1 : Int32), ((xX1_leave (sR (sR (sR (sR R 88 ((5 * ((xL_who (R 83) (R 88) (R 88 ((5 * ((vn / 24) % kw)) + 1)) 3 kw)).toNatClampNeg) + 3) (R 88 ((5 * ((vn / 24) % kw)) + 3))) 88 ((5 * ((vn / 24) % kw)) + 1) (-1 : Int32)) 88 ((5 * ((vn / 24) % kw)) + 2) (-1 : Int32)) 88 ((5 * ((vn / 24) % kw)) + 3) (-1 : Int32)) F (nI ((vn / 24) % kw)) o q).2.1), ((xX1_leave (sR (sR (sR (sR R 88 ((5 * ((xL_who (R 83) (R 88) (R 88 ((5 * ((vn / 24) % kw)) + 1)) 3 kw)).toNatClampNeg) + 3) (R 88 ((5 * ((vn / 24) % kw)) + 3))) 88 ((5 * ((vn / 24) % kw)) + 1) (-1 : Int32)) 88 ((5 * ((vn / 24) % kw)) + 2) (-1 : Int32)) 88 ((5 * ((vn / 24) % kw)) + 3) (-1 : Int32)) F (nI ((vn / 24) % kw)) o q).2.2)) else ((0 : Int32), ((xX1_leave (sR (sR (sR (sR R 88 ((5 * ((xL_who (R 83) (R 88) (R 88 ((5 * ((vn / 24) % kw)) + 1)) 3 kw)).toNatClampNeg) + 3) (R 88 ((5 * ((vn / 24) % kw)) + 3))) 88 ((5 * ((vn / 24) % kw)) + 1) (-1 : Int32)) 88 ((5 * ((vn / 24) % kw)) + 2) (-1 : Int32)) 88 ((5 * ((vn / 24) % kw)) + 3) (-1 : Int32)) F (nI ((vn / 24) % kw)) o q).2.1), ((xX1_leave (sR (sR (sR (sR R 88 ((5 * ((xL_who (R 83) (R 88) (R 88 ((5 * ((vn / 24) % kw)) + 1)) 3 kw)).toNatClampNeg) + 3) (R 88 ((5 * ((vn / 24) % kw)) + 3))) 88 ((5 * ((vn / 24) % kw)) + 1) (-1 : Int32)) 88 ((5 * ((vn / 24) % kw)) + 2) (-1 : Int32)) 88 ((5 * ((vn / 24) % kw)) + 3) (-1 : Int32)) F (nI ((vn / 24) % kw)) o q).2.2)))) else (if ((xX1_leave R F (nI ((vn / 24) % kw)) o q).1) = (-100002 : Int32) then ((1 : Int32), ((xX1_leave R F (nI ((vn / 24) % kw)) o q).2.1), ((xX1_leave R F (nI ((vn / 24) % kw)) o q).2.2)) else ((0 : Int32), ((xX1_leave R F (nI ((vn / 24) % kw)) o q).2.1), ((xX1_leave R F (nI ((vn / 24) % kw)) o q).2.2))))
def cutL_acts_541 (R F : Nat → Nat → Int32) (p9 : Int32) (vn : Nat) (wy : Nat) (kw : Nat) (o : Nat) (q : Nat) : Int32 × (Nat → Nat → Int32) × (Nat → Nat → Int32) :=
  (if (12 : Int32) ≤ (nI wy) then (((xL_two R F vn (0 : Int32) kw o q).1), ((xL_two R F vn (0 : Int32) kw o q).2.1), ((xL_two R F vn (0 : Int32) kw o q).2.2)) else (((xL_two R F vn (1 : Int32) kw o q).1), ((xL_two R F vn (1 : Int32) kw o q).2.1), ((xL_two R F vn (1 : Int32) kw o q).2.2)))
def cutL_acts_432 (R F : Nat → Nat → Int32) (p9 : Int32) (vn : Nat) (wy : Nat) (kw : Nat) (o : Nat) (q : Nat) : Int32 × (Nat → Nat → Int32) × (Nat → Nat → Int32) :=
  (if (R 88 ((5 * ((vn / 24) % kw)) + 1)) < (0 : Int32) then (if ((xX1_walk R F (nI ((vn / 24) % kw)) (nI (vn % 24)) o q).1) = (-100002 : Int32) then ((1 : Int32), ((xX1_walk R F (nI ((vn / 24) % kw)) (nI (vn % 24)) o q).2.1), ((xX1_walk R F (nI ((vn / 24) % kw)) (nI (vn % 24)) o q).2.2)) else ((0 : Int32), ((xX1_walk R F (nI ((vn / 24) % kw)) (nI (vn % 24)) o q).2.1), ((xX1_walk R F (nI ((vn / 24) % kw)) (nI (vn % 24)) o q).2.2))) else (if (xL_who (R 83) (R 88) (nI (vn % 24)) 1 kw) < (0 : Int32) then (if ((xX1_walk (sR (sR R 88 ((5 * ((vn / 24) % kw)) + 1) (nI (vn % 24))) 88 ((5 * ((xL_who (R 83) (R 88) (R 88 ((5 * ((vn / 24) % kw)) + 1)) 3 kw)).toNatClampNeg) + 3) (nI (vn % 24))) F (nI ((vn / 24) % kw)) (nI (vn % 24)) o q).1) = (nI ((xL_who (R 83) (R 88) (R 88 ((5 * ((vn / 24) % kw)) + 1)) 3 kw)).toNatClampNeg) then ((1 : Int32), ((xX1_walk (sR (sR R 88 ((5 * ((vn / 24) % kw)) + 1) (nI (vn % 24))) 88 ((5 * ((xL_who (R 83) (R 88) (R 88 ((5 * ((vn / 24) % kw)) + 1)) 3 kw)).toNatClampNeg) + 3) (nI (vn % 24))) F (nI ((vn / 24) % kw)) (nI (vn % 24)) o q).2.1), ((xX1_walk (sR (sR R 88 ((5 * ((vn / 24) % kw)) + 1) (nI (vn % 24))) 88 ((5 * ((xL_who (R 83) (R 88) (R 88 ((5 * ((vn / 24) % kw)) + 1)) 3 kw)).toNatClampNeg) + 3) (nI (vn % 24))) F (nI ((vn / 24) % kw)) (nI (vn % 24)) o q).2.2)) else ((0 : Int32), ((xX1_walk (sR (sR R 88 ((5 * ((vn / 24) % kw)) + 1) (nI (vn % 24))) 88 ((5 * ((xL_who (R 83) (R 88) (R 88 ((5 * ((vn / 24) % kw)) + 1)) 3 kw)).toNatClampNeg) + 3) (nI (vn % 24))) F (nI ((vn / 24) % kw)) (nI (vn % 24)) o q).2.1), ((xX1_walk (sR (sR R 88 ((5 * ((vn / 24) % kw)) + 1) (nI (vn % 24))) 88 ((5 * ((xL_who (R 83) (R 88) (R 88 ((5 * ((vn / 24) % kw)) + 1)) 3 kw)).toNatClampNeg) + 3) (nI (vn % 24))) F (nI ((vn / 24) % kw)) (nI (vn % 24)) o q).2.2))) else (if ((xX1_walk R F (nI ((vn / 24) % kw)) (nI (vn % 24)) o q).1) = (-100002 : Int32) then ((1 : Int32), ((xX1_walk R F (nI ((vn / 24) % kw)) (nI (vn % 24)) o q).2.1), ((xX1_walk R F (nI ((vn / 24) % kw)) (nI (vn % 24)) o q).2.2)) else ((0 : Int32), ((xX1_walk R F (nI ((vn / 24) % kw)) (nI (vn % 24)) o q).2.1), ((xX1_walk R F (nI ((vn / 24) % kw)) (nI (vn % 24)) o q).2.2)))))
def cutL_acts_346 (R F : Nat → Nat → Int32) (p9 : Int32) (vn : Nat) (wy : Nat) (kw : Nat) (o : Nat) (q : Nat) : Int32 × (Nat → Nat → Int32) × (Nat → Nat → Int32) :=
  ((1 : Int32), R, F)
def hL_acts_231 (R F : Nat → Nat → Int32) (p9 : Int32) (vn : Nat) (wy : Nat) (kw : Nat) (o : Nat) (q : Nat) : Nat → Nat → (Nat → Nat → Int32) → Int32 × (Nat → Nat → Int32) × (Nat → Nat → Int32)
  | 0, k, R1 => (if ((xX1_board (sR R1 83 1 ((R1 83 1) + (1 : Int32))) F (nI (20 + ((vn / 24) % 131))) (nI (20 + ((vn / 24) % 131))) (nI (vn % 24)) o q).1) = ((((xX1_board (sR R1 83 1 ((R1 83 1) + (1 : Int32))) F (nI (20 + ((vn / 24) % 131))) (nI (20 + ((vn / 24) % 131))) (nI (vn % 24)) o q).2.1) 83 1) - (1 : Int32)) then ((1 : Int32), ((xX1_board (sR R1 83 1 ((R1 83 1) + (1 : Int32))) F (nI (20 + ((vn / 24) % 131))) (nI (20 + ((vn / 24) % 131))) (nI (vn % 24)) o q).2.1), ((xX1_board (sR R1 83 1 ((R1 83 1) + (1 : Int32))) F (nI (20 + ((vn / 24) % 131))) (nI (20 + ((vn / 24) % 131))) (nI (vn % 24)) o q).2.2)) else ((0 : Int32), ((xX1_board (sR R1 83 1 ((R1 83 1) + (1 : Int32))) F (nI (20 + ((vn / 24) % 131))) (nI (20 + ((vn / 24) % 131))) (nI (vn % 24)) o q).2.1), ((xX1_board (sR R1 83 1 ((R1 83 1) + (1 : Int32))) F (nI (20 + ((vn / 24) % 131))) (nI (20 + ((vn / 24) % 131))) (nI (vn % 24)) o q).2.2)))
  | n + 1, k, R1 => (if (nI k) = (0 : Int32) then (hL_acts_231 R F p9 vn wy kw o q n (k + 1) (sR (sR R1 88 ((5 * kw) + k) (nI (20 + ((vn / 24) % 131)))) 89 ((5 * kw) + k) (-1 : Int32))) else (if (nI k) = (2 : Int32) then (hL_acts_231 R F p9 vn wy kw o q n (k + 1) (sR (sR R1 88 ((5 * kw) + k) (nI (20 + ((vn / 24) % 131)))) 89 ((5 * kw) + k) (0 : Int32))) else (if (nI k) = (4 : Int32) then (hL_acts_231 R F p9 vn wy kw o q n (k + 1) (sR (sR R1 88 ((5 * kw) + k) (0 : Int32)) 89 ((5 * kw) + k) (0 : Int32))) else (hL_acts_231 R F p9 vn wy kw o q n (k + 1) (sR (sR R1 88 ((5 * kw) + k) (nI (vn % 24))) 89 ((5 * kw) + k) (0 : Int32))))))
theorem hL_acts_231_z (R F : Nat → Nat → Int32) (p9 : Int32) (vn : Nat) (wy : Nat) (kw : Nat) (o : Nat) (q : Nat) (k : Nat) (R1 : Nat → Nat → Int32) : hL_acts_231 R F p9 vn wy kw o q 0 k R1 = (if ((xX1_board (sR R1 83 1 ((R1 83 1) + (1 : Int32))) F (nI (20 + ((vn / 24) % 131))) (nI (20 + ((vn / 24) % 131))) (nI (vn % 24)) o q).1) = ((((xX1_board (sR R1 83 1 ((R1 83 1) + (1 : Int32))) F (nI (20 + ((vn / 24) % 131))) (nI (20 + ((vn / 24) % 131))) (nI (vn % 24)) o q).2.1) 83 1) - (1 : Int32)) then ((1 : Int32), ((xX1_board (sR R1 83 1 ((R1 83 1) + (1 : Int32))) F (nI (20 + ((vn / 24) % 131))) (nI (20 + ((vn / 24) % 131))) (nI (vn % 24)) o q).2.1), ((xX1_board (sR R1 83 1 ((R1 83 1) + (1 : Int32))) F (nI (20 + ((vn / 24) % 131))) (nI (20 + ((vn / 24) % 131))) (nI (vn % 24)) o q).2.2)) else ((0 : Int32), ((xX1_board (sR R1 83 1 ((R1 83 1) + (1 : Int32))) F (nI (20 + ((vn / 24) % 131))) (nI (20 + ((vn / 24) % 131))) (nI (vn % 24)) o q).2.1), ((xX1_board (sR R1 83 1 ((R1 83 1) + (1 : Int32))) F (nI (20 + ((vn / 24) % 131))) (nI (20 + ((vn / 24) % 131))) (nI (vn % 24)) o q).2.2))) := rfl
theorem hL_acts_231_s (R F : Nat → Nat → Int32) (p9 : Int32) (vn : Nat) (wy : Nat) (kw : Nat) (o : Nat) (q : Nat) (n : Nat) (k : Nat) (R1 : Nat → Nat → Int32) : hL_acts_231 R F p9 vn wy kw o q (n + 1) k R1 = (if (nI k) = (0 : Int32) then (hL_acts_231 R F p9 vn wy kw o q n (k + 1) (sR (sR R1 88 ((5 * kw) + k) (nI (20 + ((vn / 24) % 131)))) 89 ((5 * kw) + k) (-1 : Int32))) else (if (nI k) = (2 : Int32) then (hL_acts_231 R F p9 vn wy kw o q n (k + 1) (sR (sR R1 88 ((5 * kw) + k) (nI (20 + ((vn / 24) % 131)))) 89 ((5 * kw) + k) (0 : Int32))) else (if (nI k) = (4 : Int32) then (hL_acts_231 R F p9 vn wy kw o q n (k + 1) (sR (sR R1 88 ((5 * kw) + k) (0 : Int32)) 89 ((5 * kw) + k) (0 : Int32))) else (hL_acts_231 R F p9 vn wy kw o q n (k + 1) (sR (sR R1 88 ((5 * kw) + k) (nI (vn % 24))) 89 ((5 * kw) + k) (0 : Int32)))))) := rfl
def hL_acts_231b (R F : Nat → Nat → Int32) (p9 : Int32) (vn : Nat) (wy : Nat) (kw : Nat) (o : Nat) (q : Nat) : Nat → Nat → (Nat → Nat → Int32) → Int32 × (Nat → Nat → Int32) × (Nat → Nat → Int32)
  | 0, k, R1 => (if ((xX1_board (sR R1 83 1 ((R1 83 1) + (1 : Int32))) F (nI (20 + ((vn / 24) % 131))) (nI (20 + ((vn / 7) % 131))) (nI (vn % 24)) o q).1) = ((((xX1_board (sR R1 83 1 ((R1 83 1) + (1 : Int32))) F (nI (20 + ((vn / 24) % 131))) (nI (20 + ((vn / 7) % 131))) (nI (vn % 24)) o q).2.1) 83 1) - (1 : Int32)) then ((1 : Int32), ((xX1_board (sR R1 83 1 ((R1 83 1) + (1 : Int32))) F (nI (20 + ((vn / 24) % 131))) (nI (20 + ((vn / 7) % 131))) (nI (vn % 24)) o q).2.1), ((xX1_board (sR R1 83 1 ((R1 83 1) + (1 : Int32))) F (nI (20 + ((vn / 24) % 131))) (nI (20 + ((vn / 7) % 131))) (nI (vn % 24)) o q).2.2)) else ((0 : Int32), ((xX1_board (sR R1 83 1 ((R1 83 1) + (1 : Int32))) F (nI (20 + ((vn / 24) % 131))) (nI (20 + ((vn / 7) % 131))) (nI (vn % 24)) o q).2.1), ((xX1_board (sR R1 83 1 ((R1 83 1) + (1 : Int32))) F (nI (20 + ((vn / 24) % 131))) (nI (20 + ((vn / 7) % 131))) (nI (vn % 24)) o q).2.2)))
  | n + 1, k, R1 => (if (nI k) = (0 : Int32) then (hL_acts_231b R F p9 vn wy kw o q n (k + 1) (sR (sR R1 88 ((5 * kw) + k) (nI (20 + ((vn / 24) % 131)))) 89 ((5 * kw) + k) (-1 : Int32))) else (if (nI k) = (2 : Int32) then (hL_acts_231b R F p9 vn wy kw o q n (k + 1) (sR (sR R1 88 ((5 * kw) + k) (nI (20 + ((vn / 7) % 131)))) 89 ((5 * kw) + k) (0 : Int32))) else (if (nI k) = (4 : Int32) then (hL_acts_231b R F p9 vn wy kw o q n (k + 1) (sR (sR R1 88 ((5 * kw) + k) (0 : Int32)) 89 ((5 * kw) + k) (0 : Int32))) else (hL_acts_231b R F p9 vn wy kw o q n (k + 1) (sR (sR R1 88 ((5 * kw) + k) (nI (vn % 24))) 89 ((5 * kw) + k) (0 : Int32))))))
theorem hL_acts_231b_z (R F : Nat → Nat → Int32) (p9 : Int32) (vn : Nat) (wy : Nat) (kw : Nat) (o : Nat) (q : Nat) (k : Nat) (R1 : Nat → Nat → Int32) : hL_acts_231b R F p9 vn wy kw o q 0 k R1 = (if ((xX1_board (sR R1 83 1 ((R1 83 1) + (1 : Int32))) F (nI (20 + ((vn / 24) % 131))) (nI (20 + ((vn / 7) % 131))) (nI (vn % 24)) o q).1) = ((((xX1_board (sR R1 83 1 ((R1 83 1) + (1 : Int32))) F (nI (20 + ((vn / 24) % 131))) (nI (20 + ((vn / 7) % 131))) (nI (vn % 24)) o q).2.1) 83 1) - (1 : Int32)) then ((1 : Int32), ((xX1_board (sR R1 83 1 ((R1 83 1) + (1 : Int32))) F (nI (20 + ((vn / 24) % 131))) (nI (20 + ((vn / 7) % 131))) (nI (vn % 24)) o q).2.1), ((xX1_board (sR R1 83 1 ((R1 83 1) + (1 : Int32))) F (nI (20 + ((vn / 24) % 131))) (nI (20 + ((vn / 7) % 131))) (nI (vn % 24)) o q).2.2)) else ((0 : Int32), ((xX1_board (sR R1 83 1 ((R1 83 1) + (1 : Int32))) F (nI (20 + ((vn / 24) % 131))) (nI (20 + ((vn / 7) % 131))) (nI (vn % 24)) o q).2.1), ((xX1_board (sR R1 83 1 ((R1 83 1) + (1 : Int32))) F (nI (20 + ((vn / 24) % 131))) (nI (20 + ((vn / 7) % 131))) (nI (vn % 24)) o q).2.2))) := rfl
theorem hL_acts_231b_s (R F : Nat → Nat → Int32) (p9 : Int32) (vn : Nat) (wy : Nat) (kw : Nat) (o : Nat) (q : Nat) (n : Nat) (k : Nat) (R1 : Nat → Nat → Int32) : hL_acts_231b R F p9 vn wy kw o q (n + 1) k R1 = (if (nI k) = (0 : Int32) then (hL_acts_231b R F p9 vn wy kw o q n (k + 1) (sR (sR R1 88 ((5 * kw) + k) (nI (20 + ((vn / 24) % 131)))) 89 ((5 * kw) + k) (-1 : Int32))) else (if (nI k) = (2 : Int32) then (hL_acts_231b R F p9 vn wy kw o q n (k + 1) (sR (sR R1 88 ((5 * kw) + k) (nI (20 + ((vn / 7) % 131)))) 89 ((5 * kw) + k) (0 : Int32))) else (if (nI k) = (4 : Int32) then (hL_acts_231b R F p9 vn wy kw o q n (k + 1) (sR (sR R1 88 ((5 * kw) + k) (0 : Int32)) 89 ((5 * kw) + k) (0 : Int32))) else (hL_acts_231b R F p9 vn wy kw o q n (k + 1) (sR (sR R1 88 ((5 * kw) + k) (nI (vn % 24))) 89 ((5 * kw) + k) (0 : Int32)))))) := rfl
def cutL_acts_119 (R F : Nat → Nat → Int32) (p9 : Int32) (vn : Nat) (wy : Nat) (kw : Nat) (o : Nat) (q : Nat) : Int32 × (Nat → Nat → Int32) × (Nat → Nat → Int32) :=
  (if (nI (vn % 4)) = (0 : Int32) then (if (xL_who (R 83) (R 88) (nI (vn % 24)) 1 kw) < (0 : Int32) then (if (nI kw) = (8 : Int32) then (if ((xX1_board R F (nI (20 + ((vn / 24) % 131))) (nI (20 + ((vn / 7) % 131))) (nI (vn % 24)) o q).1) = (-100003 : Int32) then ((1 : Int32), ((xX1_board R F (nI (20 + ((vn / 24) % 131))) (nI (20 + ((vn / 7) % 131))) (nI (vn % 24)) o q).2.1), ((xX1_board R F (nI (20 + ((vn / 24) % 131))) (nI (20 + ((vn / 7) % 131))) (nI (vn % 24)) o q).2.2)) else ((0 : Int32), ((xX1_board R F (nI (20 + ((vn / 24) % 131))) (nI (20 + ((vn / 7) % 131))) (nI (vn % 24)) o q).2.1), ((xX1_board R F (nI (20 + ((vn / 24) % 131))) (nI (20 + ((vn / 7) % 131))) (nI (vn % 24)) o q).2.2))) else (hL_acts_231b R F p9 vn wy kw o q 5 0 R)) else (if ((xX1_board R F (nI (20 + ((vn / 24) % 131))) (nI (20 + ((vn / 7) % 131))) (nI (vn % 24)) o q).1) = (-100002 : Int32) then ((1 : Int32), ((xX1_board R F (nI (20 + ((vn / 24) % 131))) (nI (20 + ((vn / 7) % 131))) (nI (vn % 24)) o q).2.1), ((xX1_board R F (nI (20 + ((vn / 24) % 131))) (nI (20 + ((vn / 7) % 131))) (nI (vn % 24)) o q).2.2)) else ((0 : Int32), ((xX1_board R F (nI (20 + ((vn / 24) % 131))) (nI (20 + ((vn / 7) % 131))) (nI (vn % 24)) o q).2.1), ((xX1_board R F (nI (20 + ((vn / 24) % 131))) (nI (20 + ((vn / 7) % 131))) (nI (vn % 24)) o q).2.2)))) else (if (xL_who (R 83) (R 88) (nI (vn % 24)) 1 kw) < (0 : Int32) then (if (nI kw) = (8 : Int32) then (if ((xX1_board R F (nI (20 + ((vn / 24) % 131))) (nI (20 + ((vn / 24) % 131))) (nI (vn % 24)) o q).1) = (-100003 : Int32) then ((1 : Int32), ((xX1_board R F (nI (20 + ((vn / 24) % 131))) (nI (20 + ((vn / 24) % 131))) (nI (vn % 24)) o q).2.1), ((xX1_board R F (nI (20 + ((vn / 24) % 131))) (nI (20 + ((vn / 24) % 131))) (nI (vn % 24)) o q).2.2)) else ((0 : Int32), ((xX1_board R F (nI (20 + ((vn / 24) % 131))) (nI (20 + ((vn / 24) % 131))) (nI (vn % 24)) o q).2.1), ((xX1_board R F (nI (20 + ((vn / 24) % 131))) (nI (20 + ((vn / 24) % 131))) (nI (vn % 24)) o q).2.2))) else (hL_acts_231 R F p9 vn wy kw o q 5 0 R)) else (if ((xX1_board R F (nI (20 + ((vn / 24) % 131))) (nI (20 + ((vn / 24) % 131))) (nI (vn % 24)) o q).1) = (-100002 : Int32) then ((1 : Int32), ((xX1_board R F (nI (20 + ((vn / 24) % 131))) (nI (20 + ((vn / 24) % 131))) (nI (vn % 24)) o q).2.1), ((xX1_board R F (nI (20 + ((vn / 24) % 131))) (nI (20 + ((vn / 24) % 131))) (nI (vn % 24)) o q).2.2)) else ((0 : Int32), ((xX1_board R F (nI (20 + ((vn / 24) % 131))) (nI (20 + ((vn / 24) % 131))) (nI (vn % 24)) o q).2.1), ((xX1_board R F (nI (20 + ((vn / 24) % 131))) (nI (20 + ((vn / 24) % 131))) (nI (vn % 24)) o q).2.2)))))
def cutL_acts_79 (R F : Nat → Nat → Int32) (p9 : Int32) (vn : Nat) (wy : Nat) (kw : Nat) (o : Nat) (q : Nat) : Int32 × (Nat → Nat → Int32) × (Nat → Nat → Int32) :=
  (if ((xX1_setPrice (sR R 83 2 (nI (vn % 101))) F (nI (vn % 101)) o q).1) = (R 83 2) then ((1 : Int32), ((xX1_setPrice (sR R 83 2 (nI (vn % 101))) F (nI (vn % 101)) o q).2.1), ((xX1_setPrice (sR R 83 2 (nI (vn % 101))) F (nI (vn % 101)) o q).2.2)) else ((0 : Int32), ((xX1_setPrice (sR R 83 2 (nI (vn % 101))) F (nI (vn % 101)) o q).2.1), ((xX1_setPrice (sR R 83 2 (nI (vn % 101))) F (nI (vn % 101)) o q).2.2)))
def cutL_acts_32 (R F : Nat → Nat → Int32) (p9 : Int32) (vn : Nat) (wy : Nat) (kw : Nat) (o : Nat) (q : Nat) : Int32 × (Nat → Nat → Int32) × (Nat → Nat → Int32) :=
  (if ((xX1_setDrift (sR R 85 (vn % 24) ((nI ((vn / 24) % 7)) - (3 : Int32))) F (nI (vn % 24)) ((nI ((vn / 24) % 7)) - (3 : Int32)) o q).1) = (R 85 (vn % 24)) then ((1 : Int32), ((xX1_setDrift (sR R 85 (vn % 24) ((nI ((vn / 24) % 7)) - (3 : Int32))) F (nI (vn % 24)) ((nI ((vn / 24) % 7)) - (3 : Int32)) o q).2.1), ((xX1_setDrift (sR R 85 (vn % 24) ((nI ((vn / 24) % 7)) - (3 : Int32))) F (nI (vn % 24)) ((nI ((vn / 24) % 7)) - (3 : Int32)) o q).2.2)) else ((0 : Int32), ((xX1_setDrift (sR R 85 (vn % 24) ((nI ((vn / 24) % 7)) - (3 : Int32))) F (nI (vn % 24)) ((nI ((vn / 24) % 7)) - (3 : Int32)) o q).2.1), ((xX1_setDrift (sR R 85 (vn % 24) ((nI ((vn / 24) % 7)) - (3 : Int32))) F (nI (vn % 24)) ((nI ((vn / 24) % 7)) - (3 : Int32)) o q).2.2)))
def xL_acts (R F : Nat → Nat → Int32) (p9 : Int32) (vn : Nat) (wy : Nat) (kw : Nat) (o : Nat) (q : Nat) : Int32 × (Nat → Nat → Int32) × (Nat → Nat → Int32) :=
  (if (nI wy) = (0 : Int32) then (cutL_acts_32 R F p9 vn wy kw o q) else (if (nI wy) = (1 : Int32) then (cutL_acts_79 R F p9 vn wy kw o q) else (if (7 : Int32) ≤ (nI wy) then (if (20 : Int32) ≤ (nI wy) then (if (nI kw) = (0 : Int32) then (if (23 : Int32) ≤ (nI wy) then (cutL_acts_859 R F p9 vn wy kw o q) else (cutL_acts_738 R F p9 vn wy kw o q)) else (if (23 : Int32) ≤ (nI wy) then (cutL_acts_859 R F p9 vn wy kw o q) else (cutL_acts_738 R F p9 vn wy kw o q))) else (if (nI kw) = (0 : Int32) then (cutL_acts_346 R F p9 vn wy kw o q) else (if (10 : Int32) ≤ (nI wy) then (if (14 : Int32) ≤ (nI wy) then (if (nI wy) = (14 : Int32) then (cutL_acts_573 R F p9 vn wy kw o q) else (cutL_acts_702 R F p9 vn wy kw o q)) else (cutL_acts_541 R F p9 vn wy kw o q)) else (cutL_acts_432 R F p9 vn wy kw o q)))) else (cutL_acts_119 R F p9 vn wy kw o q))))
set_option maxHeartbeats 4000000 in
set_option maxRecDepth 100000 in
theorem mL_acts (l : Launch) (D : va_G) (cI cS : ClassId) (ad : Nat → Nat) (hI : Inj ad) (R F : Nat → Nat → Int32) (p9 : Int32) (vn : Nat) (wy : Nat) (kw : Nat) (o : Nat) (q : Nat) (hvn : xL_low (p9 >>> ((5 : Int32) &&& (31 : Int32))) (10000000 : Int32) = nI vn) (hv : vn < 10000000) (hwy : xL_low p9 (26 : Int32) = nI wy) (hw : wy < 26) (hF2 : F 1 2 = nI kw) (hT : ∀ k, k < kw → ¬ R 88 ((5 * k) + 1) < 0 → vp_in (xL_who (R 83) (R 88) (R 88 ((5 * k) + 1)) 3 kw) 8) (hz2 : 0 < kw → ∀ b, narrow .boolean (.int (xL_two R F vn b kw o q).1) = .int (xL_two R F vn b kw o q).1) (hzc : ∀ k, k < kw → ∀ b, narrow .boolean (.int (xL_clerk R F k b kw o q).1) = .int (xL_clerk R F k b kw o q).1) (hkw : kw ≤ 8) (hW : R 83 1 = nI kw) (ho : o < 5) (hq : q ≤ 5) (hF0 : F 0 0 = nI o) (hF1 : F 0 1 = nI q) : Met l yL_acts wsL_acts ({ frames := 8, cells := 0, slots := 0, locals := 193 }) (PW D cI cS ad R F [.ref (ad 0), .ref (ad 83), .ref (ad 84), .ref (ad 85), .ref (ad 86), .ref (ad 87), .ref (ad 88), .ref (ad 89), .int p9]) (QI D cI cS ad ((xL_acts R F p9 vn wy kw o q).1) ((xL_acts R F p9 vn wy kw o q).2.1) ((xL_acts R F p9 vn wy kw o q).2.2)) 0 0 (AA ad) := by
  refine Met.ofW (cc := cL_acts) (maxL := 16) (ret := (some .boolean)) (by decide) rfl ?_
  intro p e s m args below meth c s₁ B hml hv
  obtain ⟨rfl, hP, hK⟩ := hv
  have hx := B.exec
  have hb := B.bytes
  have hr := B.returns
  have hts := atoms_spec (ws := wsL_acts) B.pre
  have hown : s.vm.findClass RL = some m.cls := findClass_of_methodNamed B.named
  have hlocks := B.notSynchronized
  have hS : va_S (AA ad) s.heap s.heap [] := va_S.rf
  have hl := lv_entry ([.ref (ad 0), .ref (ad 83), .ref (ad 84), .ref (ad 85), .ref (ad 86), .ref (ad 87), .ref (ad 88), .ref (ad 89), .int p9]) (n := 16) (Nat.le_of_ble_eq_true rfl)
  rw [lg_entry_eq]
  generalize (lg_sl ([.ref (ad 0), .ref (ad 83), .ref (ad 84), .ref (ad 85), .ref (ad 86), .ref (ad 87), .ref (ad 88), .ref (ad 89), .int p9]) ++ List.replicate (16 - (lg_sl ([.ref (ad 0), .ref (ad 83), .ref (ad 84), .ref (ad 85), .ref (ad 86), .ref (ad 87), .ref (ad 88), .ref (ad 89), .int p9])).length) Slot.unset).toArray = ls at hl ⊢
  have hl : lv_has ls 16 [(0, .ref (ad 0)), (1, .ref (ad 83)), (2, .ref (ad 84)), (3, .ref (ad 85)), (4, .ref (ad 86)), (5, .ref (ad 87)), (6, .ref (ad 88)), (7, .ref (ad 89)), (8, .int p9)] := hl
  have lk53 := hts (.constant RL 53 (10000000)) (by decide +kernel)
  have lk33 := hts (.constant RL 33 (-100002)) (by decide +kernel)
  have lk70 := hts (.constant RL 70 (-100003)) (by decide +kernel)
  have lk32 := hts (.constant RL 32 (-100001)) (by decide +kernel)
  refine lv_iload hx hb dL_acts_0 (lv_at hl 8 rfl) ?_
  refine lv_iconst (v := 5) hx hb dL_acts_2 (by decide) ?_
  refine lv_ishr hx hb dL_acts_3 ?_
  refine lv_ldc (v := 10000000) hx hb hown lk53 dL_acts_4 ?_
  refine q_callS (va_runS (As := [.int (p9 >>> ((5 : Int32) &&& (31 : Int32))), .int (10000000 : Int32)]) (rest := []) ⟨hx, hb, hml, hown, hts⟩ (mL_low l D cI cS ad hI R F (p9 >>> ((5 : Int32) &&& (31 : Int32))) (10000000 : Int32) (by decide)) (va_cwS 2 hts gL_acts_L_low rfl rfl rfl (by decide +kernel) ⟨Nat.le_of_ble_eq_true rfl, Nat.le_of_ble_eq_true rfl⟩) (PW_preS hK hP) rfl rfl hl.1 rfl (lv_room (Nat.le_of_ble_eq_true rfl)) dL_acts_6 ⟨Nat.zero_le _, Nat.zero_le _⟩) ?_
  refine q_top (y := (nI vn)) hvn ?_
  refine lv_istore (lv' := [(9, .int (nI vn)), (0, .ref (ad 0)), (1, .ref (ad 83)), (2, .ref (ad 84)), (3, .ref (ad 85)), (4, .ref (ad 86)), (5, .ref (ad 87)), (6, .ref (ad 88)), (7, .ref (ad 89)), (8, .int p9)]) hx hb dL_acts_9 hl (by decide) rfl (fun ls hl => ?_)
  refine lv_iload hx hb dL_acts_11 (lv_at hl 9 rfl) ?_
  refine lv_bipush (v := 26) hx hb dL_acts_13 (by decide) ?_
  refine q_callS (va_runS (As := [.int p9, .int (26 : Int32)]) (rest := []) ⟨hx, hb, hml, hown, hts⟩ (mL_low l D cI cS ad hI R F p9 (26 : Int32) (by decide)) (va_cwS 2 hts gL_acts_L_low rfl rfl rfl (by decide +kernel) ⟨Nat.le_of_ble_eq_true rfl, Nat.le_of_ble_eq_true rfl⟩) (PW_preS hK hP) rfl rfl hl.1 rfl (lv_room (Nat.le_of_ble_eq_true rfl)) dL_acts_15 ⟨Nat.zero_le _, Nat.zero_le _⟩) ?_
  refine q_top (y := (nI wy)) hwy ?_
  refine lv_istore (lv' := [(10, .int (nI wy)), (9, .int (nI vn)), (0, .ref (ad 0)), (1, .ref (ad 83)), (2, .ref (ad 84)), (3, .ref (ad 85)), (4, .ref (ad 86)), (5, .ref (ad 87)), (6, .ref (ad 88)), (7, .ref (ad 89)), (8, .int p9)]) hx hb dL_acts_18 hl (by decide) rfl (fun ls hl => ?_)
  refine lv_iload hx hb dL_acts_20 (lv_at hl 1 rfl) ?_
  refine lv_bipush (v := 24) hx hb dL_acts_22 (by decide) ?_
  refine lv_irem hx hb dL_acts_24 (by decide) ?_
  refine q_top (y := (nI (vn % 24))) (pk_rem (a := vn) (d := 24) (by omega) (by omega) (by omega)) ?_
  refine lv_istore (lv' := [(11, .int (nI (vn % 24))), (10, .int (nI wy)), (9, .int (nI vn)), (0, .ref (ad 0)), (1, .ref (ad 83)), (2, .ref (ad 84)), (3, .ref (ad 85)), (4, .ref (ad 86)), (5, .ref (ad 87)), (6, .ref (ad 88)), (7, .ref (ad 89)), (8, .int p9)]) hx hb dL_acts_25 hl (by decide) rfl (fun ls hl => ?_)
  refine lv_iload hx hb dL_acts_27 (lv_at hl 1 rfl) ?_
  refine lv_if_ne (tgt := 73) hx hb dL_acts_29 (by decide) (fun c_29 => ?_) (fun c_29 => ?_)
  · have n_29 : ¬ (wy) = (0) := fun q => c_29 ((nI_eq (a := wy) (b := 0) (by omega) (by omega)).mpr q)
    refine lv_iload hx hb dL_acts_73 (lv_at hl 1 rfl) ?_
    refine lv_iconst (v := 1) hx hb dL_acts_75 (by decide) ?_
    refine lv_icmp_ne (tgt := 112) hx hb dL_acts_76 (by decide) (fun c_76 => ?_) (fun c_76 => ?_)
    · have n_76 : ¬ (wy) = (1) := fun q => c_76 ((nI_eq (a := wy) (b := 1) (by omega) (by omega)).mpr q)
      refine lv_iload hx hb dL_acts_112 (lv_at hl 1 rfl) ?_
      refine lv_bipush (v := 7) hx hb dL_acts_114 (by decide) ?_
      refine lv_icmp_ge (tgt := 333) hx hb dL_acts_116 (by decide) (fun c_116 => ?_) (fun c_116 => ?_)
      · have n_116 : (7) ≤ (wy) := (nI_leI (a := 7) (b := wy) (by omega) (by omega)).mp c_116
        refine lv_iload hx hb dL_acts_333 (lv_at hl 1 rfl) ?_
        refine lv_bipush (v := 20) hx hb dL_acts_335 (by decide) ?_
        refine lv_icmp_ge (tgt := 404) hx hb dL_acts_337 (by decide) (fun c_337 => ?_) (fun c_337 => ?_)
        · have n_337 : (20) ≤ (wy) := (nI_leI (a := 20) (b := wy) (by omega) (by omega)).mp c_337
          refine lv_aload_n hx hb dL_acts_404 rfl (lv_at hl 4 rfl) ?_
          refine lv_iconst (v := 1) hx hb dL_acts_405 (by decide) ?_
          refine q_ildN hx hb hK hP 83 6 (ar_83) 1 dL_acts_406 rfl (by omega) (by decide) ?_
          refine q_top (y := (nI kw)) hW ?_
          refine lv_if_ne (tgt := 414) hx hb dL_acts_407 (by decide) (fun c_407 => ?_) (fun c_407 => ?_)
          · have n_407 : ¬ (kw) = (0) := fun q => c_407 ((nI_eq (a := kw) (b := 0) (by omega) (by omega)).mpr q)
            refine lv_iload hx hb dL_acts_414 (lv_at hl 2 rfl) ?_
            refine lv_bipush (v := 24) hx hb dL_acts_416 (by decide) ?_
            refine lv_idiv hx hb dL_acts_418 (by decide) ?_
            refine q_top (y := (nI (vn / 24))) (pk_div (a := vn) (d := 24) (by omega) (by omega) (by omega)) ?_
            refine lv_aload_n hx hb dL_acts_419 rfl (lv_at hl 4 rfl) ?_
            refine lv_iconst (v := 1) hx hb dL_acts_420 (by decide) ?_
            refine q_ildN hx hb hK hP 83 6 (ar_83) 1 dL_acts_421 rfl (by omega) (by decide) ?_
            refine q_top (y := (nI kw)) hW ?_
            refine lv_irem hx hb dL_acts_422 (nI_ne0 (by omega) (by omega)) ?_
            refine q_top (y := (nI ((vn / 24) % kw))) (pk_rem (a := (vn / 24)) (d := kw) (by omega) (by omega) (by omega)) ?_
            refine lv_istore (lv' := [(12, .int (nI ((vn / 24) % kw))), (11, .int (nI (vn % 24))), (10, .int (nI wy)), (9, .int (nI vn)), (0, .ref (ad 0)), (1, .ref (ad 83)), (2, .ref (ad 84)), (3, .ref (ad 85)), (4, .ref (ad 86)), (5, .ref (ad 87)), (6, .ref (ad 88)), (7, .ref (ad 89)), (8, .int p9)]) hx hb dL_acts_423 hl (by decide) rfl (fun ls hl => ?_)
            have hk12 : vn / 24 % kw < kw := Nat.mod_lt _ (by omega)
            refine lv_iload hx hb dL_acts_425 (lv_at hl 2 rfl) ?_
            refine lv_bipush (v := 10) hx hb dL_acts_427 (by decide) ?_
            refine lv_icmp_ge (tgt := 534) hx hb dL_acts_429 (by decide) (fun c_429 => ?_) (fun c_429 => ?_)
            · have n_429 : (10) ≤ (wy) := (nI_leI (a := 10) (b := wy) (by omega) (by omega)).mp c_429
              refine lv_iload hx hb dL_acts_534 (lv_at hl 2 rfl) ?_
              refine lv_bipush (v := 14) hx hb dL_acts_536 (by decide) ?_
              refine lv_icmp_ge (tgt := 566) hx hb dL_acts_538 (by decide) (fun c_538 => ?_) (fun c_538 => ?_)
              · have n_538 : (14) ≤ (wy) := (nI_leI (a := 14) (b := wy) (by omega) (by omega)).mp c_538
                refine lv_iload hx hb dL_acts_566 (lv_at hl 2 rfl) ?_
                refine lv_bipush (v := 14) hx hb dL_acts_568 (by decide) ?_
                refine lv_icmp_ne (tgt := 695) hx hb dL_acts_570 (by decide) (fun c_570 => ?_) (fun c_570 => ?_)
                · have n_570 : ¬ (wy) = (14) := fun q => c_570 ((nI_eq (a := wy) (b := 14) (by omega) (by omega)).mpr q)
                  refine lv_iload hx hb dL_acts_695 (lv_at hl 2 rfl) ?_
                  refine lv_bipush (v := 20) hx hb dL_acts_697 (by decide) ?_
                  refine lv_icmp_ge (tgt := 731) hx hb dL_acts_699 (by decide) (fun c_699 => ?_) (fun c_699 => ?_)
                  · refine lv_iload hx hb dL_acts_731 (lv_at hl 2 rfl) ?_
                    refine lv_bipush (v := 23) hx hb dL_acts_733 (by decide) ?_
                    refine lv_icmp_ge (tgt := 859) hx hb dL_acts_735 (by decide) (fun c_735 => ?_) (fun c_735 => ?_)
                    · have n_735 : (23) ≤ (wy) := (nI_leI (a := 23) (b := wy) (by omega) (by omega)).mp c_735
                      refine lv_iconst (v := 1) hx hb dL_acts_859 (by decide) ?_
                      refine lv_iload hx hb dL_acts_860 (lv_at hl 3 rfl) ?_
                      refine lv_iload hx hb dL_acts_862 (lv_at hl 3 rfl) ?_
                      refine lv_bipush (v := 9) hx hb dL_acts_864 (by decide) ?_
                      refine lv_irem hx hb dL_acts_866 (by decide) ?_
                      refine q_top (y := (nI (vn % 9))) (pk_rem (a := vn) (d := 9) (by omega) (by omega) (by omega)) ?_
                      refine lv_if_ne (tgt := 875) hx hb dL_acts_867 (by decide) (fun c_867 => ?_) (fun c_867 => ?_)
                      · have n_867 : ¬ ((vn % 9)) = (0) := fun q => c_867 ((nI_eq (a := (vn % 9)) (b := 0) (by omega) (by omega)).mpr q)
                        refine lv_iconst (v := 4) hx hb dL_acts_875 (by decide) ?_
                        refine lv_irem hx hb dL_acts_876 (by decide) ?_
                        refine q_top (y := (nI (vn % 4))) (pk_rem (a := vn) (d := 4) (by omega) (by omega) (by omega)) ?_
                        refine lv_iadd hx hb dL_acts_877 ?_
                        refine q_top (y := (nI (1 + (vn % 4)))) (nI_add 1 (vn % 4)) ?_
                        refine lv_istore (lv' := [(13, .int (nI (1 + (vn % 4)))), (12, .int (nI ((vn / 24) % kw))), (11, .int (nI (vn % 24))), (10, .int (nI wy)), (9, .int (nI vn)), (0, .ref (ad 0)), (1, .ref (ad 83)), (2, .ref (ad 84)), (3, .ref (ad 85)), (4, .ref (ad 86)), (5, .ref (ad 87)), (6, .ref (ad 88)), (7, .ref (ad 89)), (8, .int p9)]) hx hb dL_acts_878 hl (by decide) rfl (fun ls hl => ?_)
                        refine lv_aload_n hx hb dL_acts_880 rfl (lv_at hl 6 rfl) ?_
                        refine lv_iconst (v := 0) hx hb dL_acts_881 (by decide) ?_
                        refine q_ildN hx hb hK hP 83 6 (ar_83) 0 dL_acts_882 rfl (by omega) (by decide) ?_
                        refine lv_iload hx hb dL_acts_883 (lv_at hl 0 rfl) ?_
                        refine lv_iadd hx hb dL_acts_885 ?_
                        refine lv_sipush (v := 2000) hx hb dL_acts_886 (by decide) ?_
                        refine lv_icmp_le (tgt := 909) hx hb dL_acts_889 (by decide) (fun c_889 => ?_) (fun c_889 => ?_)
                        · refine lv_aload_n hx hb dL_acts_909 rfl (lv_at hl 6 rfl) ?_
                          refine lv_iconst (v := 0) hx hb dL_acts_910 (by decide) ?_
                          refine lv_dup2_11 hx hb dL_acts_911 rfl rfl ?_
                          refine q_ildN hx hb hK hP 83 6 (ar_83) 0 dL_acts_912 rfl (by omega) (by decide) ?_
                          refine lv_iload hx hb dL_acts_913 (lv_at hl 0 rfl) ?_
                          refine lv_iadd hx hb dL_acts_915 ?_
                          refine q_istN hx hb hK hI hP hS 83 6 (ar_83) 0 dL_acts_916 rfl (by omega) (by decide) (fun H locs hP hS => ?_)
                          have hP : WP D cI cS ad (sR R 83 0 ((R 83 0) + (nI (1 + (vn % 4))))) F H := hP
                          refine lv_iconst (v := 0) hx hb dL_acts_917 (by decide) ?_
                          refine lv_istore (lv' := [(14, .int (0 : Int32)), (13, .int (nI (1 + (vn % 4)))), (12, .int (nI ((vn / 24) % kw))), (11, .int (nI (vn % 24))), (10, .int (nI wy)), (9, .int (nI vn)), (0, .ref (ad 0)), (1, .ref (ad 83)), (2, .ref (ad 84)), (3, .ref (ad 85)), (4, .ref (ad 86)), (5, .ref (ad 87)), (6, .ref (ad 88)), (7, .ref (ad 89)), (8, .int p9)]) hx hb dL_acts_918 hl (by decide) rfl (fun ls hl => ?_)
                          refine q_loop (fun nn H locs ls => ∃ (k : Nat) (R1 : Nat → Nat → Int32), k + nn = 24 ∧ hL_acts_920 R F p9 vn wy kw o q nn k R1 = (xL_acts R F p9 vn wy kw o q) ∧ WP D cI cS ad R1 F H ∧ va_S (AA ad) s.heap H locs ∧ lv_has ls 16 [(14, .int (nI k)), (13, .int (nI (1 + (vn % 4)))), (12, .int (nI ((vn / 24) % kw))), (11, .int (nI (vn % 24))), (10, .int (nI wy)), (9, .int (nI vn)), (0, .ref (ad 0)), (1, .ref (ad 83)), (2, .ref (ad 84)), (3, .ref (ad 85)), (4, .ref (ad 86)), (5, .ref (ad 87)), (6, .ref (ad 88)), (7, .ref (ad 89)), (8, .int p9)]) 24 ⟨0, (sR R 83 0 ((R 83 0) + (nI (1 + (vn % 4))))), by omega, by unfold xL_acts; rw [if_neg c_29, if_neg c_76, if_pos c_116, if_pos c_337, if_neg c_407, if_pos c_735]; unfold cutL_acts_859; rw [if_neg c_867, if_pos c_889], hP, hS, lv_sub hl [0, 1, 2, 3, 4, 5, 6, 7, 8, 9, 10, 11, 12, 13, 14] rfl⟩ ?_ ?_
                          · intro H locs ls hz
                            obtain ⟨k, R1, hkn, hsp, hP, hS, hl⟩ := hz
                            refine lv_iload hx hb dL_acts_920 (lv_at hl 0 rfl) ?_
                            refine lv_bipush (v := 24) hx hb dL_acts_922 (by decide) ?_
                            refine lv_icmp_ge (tgt := 947) hx hb dL_acts_924 (by decide) (fun c_924 => ?_) (fun c_924 => ?_)
                            · refine lv_aload_n hx hb dL_acts_947 rfl (lv_at hl 6 rfl) ?_
                              refine lv_iload hx hb dL_acts_948 (lv_at hl 1 rfl) ?_
                              refine q_callI (va_runV (As := [.int (nI (1 + (vn % 4)))]) (rest := []) ⟨hx, hb, hml, hown, hts⟩ (mX1_pass l D cI cS ad hI R1 F (nI (1 + (vn % 4))) o q ho hq hF0 hF1) (cwV 1 hts gL_acts_X1_pass rfl rfl rfl (by decide +kernel) ⟨Nat.le_of_ble_eq_true rfl, Nat.le_of_ble_eq_true rfl⟩) (PW_preV (i := 0) (by decide) CC_0 rfl rfl hK hP) rfl rfl hl.1 rfl (lv_room (Nat.le_of_ble_eq_true rfl)) dL_acts_950 ⟨Nat.zero_le _, Nat.zero_le _⟩) hS (fun H locs hP hS => ?_)
                              refine lv_aload_n hx hb dL_acts_953 rfl (lv_at hl 7 rfl) ?_
                              refine lv_iconst (v := 0) hx hb dL_acts_954 (by decide) ?_
                              refine q_ildN hx hb hK hP 83 6 (ar_83) 0 dL_acts_955 rfl (by omega) (by decide) ?_
                              refine lv_icmp_ne (tgt := 963) hx hb dL_acts_956 (by decide) (fun c_956 => ?_) (fun c_956 => ?_)
                              · refine lv_iconst (v := 0) hx hb dL_acts_963 (by decide) ?_
                                have hX : (xL_acts R F p9 vn wy kw o q) = ((0 : Int32), ((xX1_pass R1 F (nI (1 + (vn % 4))) o q).2.1), ((xX1_pass R1 F (nI (1 + (vn % 4))) o q).2.2)) := by rw [← hsp, hL_acts_920_z, if_neg c_956]
                                exact W.zret (v := (0 : Int32)) hx hb hr rfl (fun t ht hW => ⟨by rw [hX], by rw [hX, ht]; with_reducible exact hP, hS.F ht⟩) hS.2.2 dL_acts_964
                              · refine lv_iconst (v := 1) hx hb dL_acts_959 (by decide) ?_
                                refine lv_goto (tgt := 964) hx hb dL_acts_960 (by decide) ?_
                                have hX : (xL_acts R F p9 vn wy kw o q) = ((1 : Int32), ((xX1_pass R1 F (nI (1 + (vn % 4))) o q).2.1), ((xX1_pass R1 F (nI (1 + (vn % 4))) o q).2.2)) := by rw [← hsp, hL_acts_920_z, if_pos c_956]
                                exact W.zret (v := (1 : Int32)) hx hb hr rfl (fun t ht hW => ⟨by rw [hX], by rw [hX, ht]; with_reducible exact hP, hS.F ht⟩) hS.2.2 dL_acts_964
                            · exact absurd (nI_le (a := 24) (b := k) (by omega) (by omega)) c_924
                          · intro n ih H locs ls hz
                            obtain ⟨k, R1, hkn, hsp, hP, hS, hl⟩ := hz
                            refine lv_iload hx hb dL_acts_920 (lv_at hl 0 rfl) ?_
                            refine lv_bipush (v := 24) hx hb dL_acts_922 (by decide) ?_
                            refine lv_icmp_ge (tgt := 947) hx hb dL_acts_924 (by decide) (fun c_924 => ?_) (fun c_924 => ?_)
                            · exact absurd c_924 (nI_ge (a := k) (b := 24) (by omega) (by omega))
                            · refine lv_aload_n hx hb dL_acts_927 rfl (lv_at hl 8 rfl) ?_
                              refine lv_iload hx hb dL_acts_928 (lv_at hl 0 rfl) ?_
                              refine lv_dup2_11 hx hb dL_acts_930 rfl rfl ?_
                              refine q_ildN hx hb hK hP 84 24 (ar_84) k dL_acts_931 rfl (by omega) (by decide) ?_
                              refine lv_aload_n hx hb dL_acts_932 rfl (lv_at hl 9 rfl) ?_
                              refine lv_iload hx hb dL_acts_933 (lv_at hl 0 rfl) ?_
                              refine q_ildN hx hb hK hP 85 24 (ar_85) k dL_acts_935 rfl (by omega) (by decide) ?_
                              refine lv_iload hx hb dL_acts_936 (lv_at hl 1 rfl) ?_
                              refine lv_imul hx hb dL_acts_938 ?_
                              refine lv_iadd hx hb dL_acts_939 ?_
                              refine q_istN hx hb hK hI hP hS 84 24 (ar_84) k dL_acts_940 rfl (by omega) (by decide) (fun H locs hP hS => ?_)
                              have hP : WP D cI cS ad (sR R1 84 k ((R1 84 k) + ((R1 85 k) * (nI (1 + (vn % 4)))))) F H := hP
                              refine lv_iinc (v := (nI (k + 1))) (lv' := [(14, .int (nI (k + 1))), (13, .int (nI (1 + (vn % 4)))), (12, .int (nI ((vn / 24) % kw))), (11, .int (nI (vn % 24))), (10, .int (nI wy)), (9, .int (nI vn)), (0, .ref (ad 0)), (1, .ref (ad 83)), (2, .ref (ad 84)), (3, .ref (ad 85)), (4, .ref (ad 86)), (5, .ref (ad 87)), (6, .ref (ad 88)), (7, .ref (ad 89)), (8, .int p9)]) hx hb dL_acts_941 hl (k := 0) rfl (nI_1 k) (by decide) rfl (fun ls hl => ?_)
                              refine lv_goto (tgt := 920) hx hb dL_acts_944 (by decide) ?_
                              exact ih _ _ _ ⟨(k + 1), (sR R1 84 k ((R1 84 k) + ((R1 85 k) * (nI (1 + (vn % 4)))))), by omega, by rw [← hsp, hL_acts_920_s], hP, hS, lv_sub hl [0, 1, 2, 3, 4, 5, 6, 7, 8, 9, 10, 11, 12, 13, 14] rfl⟩
                        · refine lv_aload_n hx hb dL_acts_892 rfl (lv_at hl 5 rfl) ?_
                          refine lv_iload hx hb dL_acts_893 (lv_at hl 0 rfl) ?_
                          refine q_callI (va_runV (As := [.int (nI (1 + (vn % 4)))]) (rest := []) ⟨hx, hb, hml, hown, hts⟩ (mX1_pass l D cI cS ad hI R F (nI (1 + (vn % 4))) o q ho hq hF0 hF1) (cwV 1 hts gL_acts_X1_pass rfl rfl rfl (by decide +kernel) ⟨Nat.le_of_ble_eq_true rfl, Nat.le_of_ble_eq_true rfl⟩) (PW_preV (i := 0) (by decide) CC_0 rfl rfl hK hP) rfl rfl hl.1 rfl (lv_room (Nat.le_of_ble_eq_true rfl)) dL_acts_895 ⟨Nat.zero_le _, Nat.zero_le _⟩) hS (fun H locs hP hS => ?_)
                          refine lv_ldc (v := -100002) hx hb hown lk33 dL_acts_898 ?_
                          refine lv_icmp_ne (tgt := 907) hx hb dL_acts_900 (by decide) (fun c_900 => ?_) (fun c_900 => ?_)
                          · refine lv_iconst (v := 0) hx hb dL_acts_907 (by decide) ?_
                            have hX : (xL_acts R F p9 vn wy kw o q) = ((0 : Int32), ((xX1_pass R F (nI (1 + (vn % 4))) o q).2.1), ((xX1_pass R F (nI (1 + (vn % 4))) o q).2.2)) := by unfold xL_acts; rw [if_neg c_29, if_neg c_76, if_pos c_116, if_pos c_337, if_neg c_407, if_pos c_735]; unfold cutL_acts_859; rw [if_neg c_867, if_neg c_889, if_neg c_900]
                            exact W.zret (v := (0 : Int32)) hx hb hr rfl (fun t ht hW => ⟨by rw [hX], by rw [hX, ht]; with_reducible exact hP, hS.F ht⟩) hS.2.2 dL_acts_908
                          · refine lv_iconst (v := 1) hx hb dL_acts_903 (by decide) ?_
                            refine lv_goto (tgt := 908) hx hb dL_acts_904 (by decide) ?_
                            have hX : (xL_acts R F p9 vn wy kw o q) = ((1 : Int32), ((xX1_pass R F (nI (1 + (vn % 4))) o q).2.1), ((xX1_pass R F (nI (1 + (vn % 4))) o q).2.2)) := by unfold xL_acts; rw [if_neg c_29, if_neg c_76, if_pos c_116, if_pos c_337, if_neg c_407, if_pos c_735]; unfold cutL_acts_859; rw [if_neg c_867, if_neg c_889, if_pos c_900]
                            exact W.zret (v := (1 : Int32)) hx hb hr rfl (fun t ht hW => ⟨by rw [hX], by rw [hX, ht]; with_reducible exact hP, hS.F ht⟩) hS.2.2 dL_acts_908
                      · have n_867 : ((vn % 9)) = (0) := (nI_eq (a := (vn % 9)) (b := 0) (by omega) (by omega)).mp c_867
                        refine lv_bipush (v := 60) hx hb dL_acts_870 (by decide) ?_
                        refine lv_goto (tgt := 876) hx hb dL_acts_872 (by decide) ?_
                        refine lv_irem hx hb dL_acts_876 (by decide) ?_
                        refine q_top (y := (nI (vn % 60))) (pk_rem (a := vn) (d := 60) (by omega) (by omega) (by omega)) ?_
                        refine lv_iadd hx hb dL_acts_877 ?_
                        refine q_top (y := (nI (1 + (vn % 60)))) (nI_add 1 (vn % 60)) ?_
                        refine lv_istore (lv' := [(13, .int (nI (1 + (vn % 60)))), (12, .int (nI ((vn / 24) % kw))), (11, .int (nI (vn % 24))), (10, .int (nI wy)), (9, .int (nI vn)), (0, .ref (ad 0)), (1, .ref (ad 83)), (2, .ref (ad 84)), (3, .ref (ad 85)), (4, .ref (ad 86)), (5, .ref (ad 87)), (6, .ref (ad 88)), (7, .ref (ad 89)), (8, .int p9)]) hx hb dL_acts_878 hl (by decide) rfl (fun ls hl => ?_)
                        refine lv_aload_n hx hb dL_acts_880 rfl (lv_at hl 6 rfl) ?_
                        refine lv_iconst (v := 0) hx hb dL_acts_881 (by decide) ?_
                        refine q_ildN hx hb hK hP 83 6 (ar_83) 0 dL_acts_882 rfl (by omega) (by decide) ?_
                        refine lv_iload hx hb dL_acts_883 (lv_at hl 0 rfl) ?_
                        refine lv_iadd hx hb dL_acts_885 ?_
                        refine lv_sipush (v := 2000) hx hb dL_acts_886 (by decide) ?_
                        refine lv_icmp_le (tgt := 909) hx hb dL_acts_889 (by decide) (fun c_889 => ?_) (fun c_889 => ?_)
                        · refine lv_aload_n hx hb dL_acts_909 rfl (lv_at hl 6 rfl) ?_
                          refine lv_iconst (v := 0) hx hb dL_acts_910 (by decide) ?_
                          refine lv_dup2_11 hx hb dL_acts_911 rfl rfl ?_
                          refine q_ildN hx hb hK hP 83 6 (ar_83) 0 dL_acts_912 rfl (by omega) (by decide) ?_
                          refine lv_iload hx hb dL_acts_913 (lv_at hl 0 rfl) ?_
                          refine lv_iadd hx hb dL_acts_915 ?_
                          refine q_istN hx hb hK hI hP hS 83 6 (ar_83) 0 dL_acts_916 rfl (by omega) (by decide) (fun H locs hP hS => ?_)
                          have hP : WP D cI cS ad (sR R 83 0 ((R 83 0) + (nI (1 + (vn % 60))))) F H := hP
                          refine lv_iconst (v := 0) hx hb dL_acts_917 (by decide) ?_
                          refine lv_istore (lv' := [(14, .int (0 : Int32)), (13, .int (nI (1 + (vn % 60)))), (12, .int (nI ((vn / 24) % kw))), (11, .int (nI (vn % 24))), (10, .int (nI wy)), (9, .int (nI vn)), (0, .ref (ad 0)), (1, .ref (ad 83)), (2, .ref (ad 84)), (3, .ref (ad 85)), (4, .ref (ad 86)), (5, .ref (ad 87)), (6, .ref (ad 88)), (7, .ref (ad 89)), (8, .int p9)]) hx hb dL_acts_918 hl (by decide) rfl (fun ls hl => ?_)
                          refine q_loop (fun nn H locs ls => ∃ (k : Nat) (R1 : Nat → Nat → Int32), k + nn = 24 ∧ hL_acts_920b R F p9 vn wy kw o q nn k R1 = (xL_acts R F p9 vn wy kw o q) ∧ WP D cI cS ad R1 F H ∧ va_S (AA ad) s.heap H locs ∧ lv_has ls 16 [(14, .int (nI k)), (13, .int (nI (1 + (vn % 60)))), (12, .int (nI ((vn / 24) % kw))), (11, .int (nI (vn % 24))), (10, .int (nI wy)), (9, .int (nI vn)), (0, .ref (ad 0)), (1, .ref (ad 83)), (2, .ref (ad 84)), (3, .ref (ad 85)), (4, .ref (ad 86)), (5, .ref (ad 87)), (6, .ref (ad 88)), (7, .ref (ad 89)), (8, .int p9)]) 24 ⟨0, (sR R 83 0 ((R 83 0) + (nI (1 + (vn % 60))))), by omega, by unfold xL_acts; rw [if_neg c_29, if_neg c_76, if_pos c_116, if_pos c_337, if_neg c_407, if_pos c_735]; unfold cutL_acts_859; rw [if_pos c_867, if_pos c_889], hP, hS, lv_sub hl [0, 1, 2, 3, 4, 5, 6, 7, 8, 9, 10, 11, 12, 13, 14] rfl⟩ ?_ ?_
                          · intro H locs ls hz
                            obtain ⟨k, R1, hkn, hsp, hP, hS, hl⟩ := hz
                            refine lv_iload hx hb dL_acts_920 (lv_at hl 0 rfl) ?_
                            refine lv_bipush (v := 24) hx hb dL_acts_922 (by decide) ?_
                            refine lv_icmp_ge (tgt := 947) hx hb dL_acts_924 (by decide) (fun c_924 => ?_) (fun c_924 => ?_)
                            · refine lv_aload_n hx hb dL_acts_947 rfl (lv_at hl 6 rfl) ?_
                              refine lv_iload hx hb dL_acts_948 (lv_at hl 1 rfl) ?_
                              refine q_callI (va_runV (As := [.int (nI (1 + (vn % 60)))]) (rest := []) ⟨hx, hb, hml, hown, hts⟩ (mX1_pass l D cI cS ad hI R1 F (nI (1 + (vn % 60))) o q ho hq hF0 hF1) (cwV 1 hts gL_acts_X1_pass rfl rfl rfl (by decide +kernel) ⟨Nat.le_of_ble_eq_true rfl, Nat.le_of_ble_eq_true rfl⟩) (PW_preV (i := 0) (by decide) CC_0 rfl rfl hK hP) rfl rfl hl.1 rfl (lv_room (Nat.le_of_ble_eq_true rfl)) dL_acts_950 ⟨Nat.zero_le _, Nat.zero_le _⟩) hS (fun H locs hP hS => ?_)
                              refine lv_aload_n hx hb dL_acts_953 rfl (lv_at hl 7 rfl) ?_
                              refine lv_iconst (v := 0) hx hb dL_acts_954 (by decide) ?_
                              refine q_ildN hx hb hK hP 83 6 (ar_83) 0 dL_acts_955 rfl (by omega) (by decide) ?_
                              refine lv_icmp_ne (tgt := 963) hx hb dL_acts_956 (by decide) (fun c_956 => ?_) (fun c_956 => ?_)
                              · refine lv_iconst (v := 0) hx hb dL_acts_963 (by decide) ?_
                                have hX : (xL_acts R F p9 vn wy kw o q) = ((0 : Int32), ((xX1_pass R1 F (nI (1 + (vn % 60))) o q).2.1), ((xX1_pass R1 F (nI (1 + (vn % 60))) o q).2.2)) := by rw [← hsp, hL_acts_920b_z, if_neg c_956]
                                exact W.zret (v := (0 : Int32)) hx hb hr rfl (fun t ht hW => ⟨by rw [hX], by rw [hX, ht]; with_reducible exact hP, hS.F ht⟩) hS.2.2 dL_acts_964
                              · refine lv_iconst (v := 1) hx hb dL_acts_959 (by decide) ?_
                                refine lv_goto (tgt := 964) hx hb dL_acts_960 (by decide) ?_
                                have hX : (xL_acts R F p9 vn wy kw o q) = ((1 : Int32), ((xX1_pass R1 F (nI (1 + (vn % 60))) o q).2.1), ((xX1_pass R1 F (nI (1 + (vn % 60))) o q).2.2)) := by rw [← hsp, hL_acts_920b_z, if_pos c_956]
                                exact W.zret (v := (1 : Int32)) hx hb hr rfl (fun t ht hW => ⟨by rw [hX], by rw [hX, ht]; with_reducible exact hP, hS.F ht⟩) hS.2.2 dL_acts_964
                            · exact absurd (nI_le (a := 24) (b := k) (by omega) (by omega)) c_924
                          · intro n ih H locs ls hz
                            obtain ⟨k, R1, hkn, hsp, hP, hS, hl⟩ := hz
                            refine lv_iload hx hb dL_acts_920 (lv_at hl 0 rfl) ?_
                            refine lv_bipush (v := 24) hx hb dL_acts_922 (by decide) ?_
                            refine lv_icmp_ge (tgt := 947) hx hb dL_acts_924 (by decide) (fun c_924 => ?_) (fun c_924 => ?_)
                            · exact absurd c_924 (nI_ge (a := k) (b := 24) (by omega) (by omega))
                            · refine lv_aload_n hx hb dL_acts_927 rfl (lv_at hl 8 rfl) ?_
                              refine lv_iload hx hb dL_acts_928 (lv_at hl 0 rfl) ?_
                              refine lv_dup2_11 hx hb dL_acts_930 rfl rfl ?_
                              refine q_ildN hx hb hK hP 84 24 (ar_84) k dL_acts_931 rfl (by omega) (by decide) ?_
                              refine lv_aload_n hx hb dL_acts_932 rfl (lv_at hl 9 rfl) ?_
                              refine lv_iload hx hb dL_acts_933 (lv_at hl 0 rfl) ?_
                              refine q_ildN hx hb hK hP 85 24 (ar_85) k dL_acts_935 rfl (by omega) (by decide) ?_
                              refine lv_iload hx hb dL_acts_936 (lv_at hl 1 rfl) ?_
                              refine lv_imul hx hb dL_acts_938 ?_
                              refine lv_iadd hx hb dL_acts_939 ?_
                              refine q_istN hx hb hK hI hP hS 84 24 (ar_84) k dL_acts_940 rfl (by omega) (by decide) (fun H locs hP hS => ?_)
                              have hP : WP D cI cS ad (sR R1 84 k ((R1 84 k) + ((R1 85 k) * (nI (1 + (vn % 60)))))) F H := hP
                              refine lv_iinc (v := (nI (k + 1))) (lv' := [(14, .int (nI (k + 1))), (13, .int (nI (1 + (vn % 60)))), (12, .int (nI ((vn / 24) % kw))), (11, .int (nI (vn % 24))), (10, .int (nI wy)), (9, .int (nI vn)), (0, .ref (ad 0)), (1, .ref (ad 83)), (2, .ref (ad 84)), (3, .ref (ad 85)), (4, .ref (ad 86)), (5, .ref (ad 87)), (6, .ref (ad 88)), (7, .ref (ad 89)), (8, .int p9)]) hx hb dL_acts_941 hl (k := 0) rfl (nI_1 k) (by decide) rfl (fun ls hl => ?_)
                              refine lv_goto (tgt := 920) hx hb dL_acts_944 (by decide) ?_
                              exact ih _ _ _ ⟨(k + 1), (sR R1 84 k ((R1 84 k) + ((R1 85 k) * (nI (1 + (vn % 60)))))), by omega, by rw [← hsp, hL_acts_920b_s], hP, hS, lv_sub hl [0, 1, 2, 3, 4, 5, 6, 7, 8, 9, 10, 11, 12, 13, 14] rfl⟩
                        · refine lv_aload_n hx hb dL_acts_892 rfl (lv_at hl 5 rfl) ?_
                          refine lv_iload hx hb dL_acts_893 (lv_at hl 0 rfl) ?_
                          refine q_callI (va_runV (As := [.int (nI (1 + (vn % 60)))]) (rest := []) ⟨hx, hb, hml, hown, hts⟩ (mX1_pass l D cI cS ad hI R F (nI (1 + (vn % 60))) o q ho hq hF0 hF1) (cwV 1 hts gL_acts_X1_pass rfl rfl rfl (by decide +kernel) ⟨Nat.le_of_ble_eq_true rfl, Nat.le_of_ble_eq_true rfl⟩) (PW_preV (i := 0) (by decide) CC_0 rfl rfl hK hP) rfl rfl hl.1 rfl (lv_room (Nat.le_of_ble_eq_true rfl)) dL_acts_895 ⟨Nat.zero_le _, Nat.zero_le _⟩) hS (fun H locs hP hS => ?_)
                          refine lv_ldc (v := -100002) hx hb hown lk33 dL_acts_898 ?_
                          refine lv_icmp_ne (tgt := 907) hx hb dL_acts_900 (by decide) (fun c_900 => ?_) (fun c_900 => ?_)
                          · refine lv_iconst (v := 0) hx hb dL_acts_907 (by decide) ?_
                            have hX : (xL_acts R F p9 vn wy kw o q) = ((0 : Int32), ((xX1_pass R F (nI (1 + (vn % 60))) o q).2.1), ((xX1_pass R F (nI (1 + (vn % 60))) o q).2.2)) := by unfold xL_acts; rw [if_neg c_29, if_neg c_76, if_pos c_116, if_pos c_337, if_neg c_407, if_pos c_735]; unfold cutL_acts_859; rw [if_pos c_867, if_neg c_889, if_neg c_900]
                            exact W.zret (v := (0 : Int32)) hx hb hr rfl (fun t ht hW => ⟨by rw [hX], by rw [hX, ht]; with_reducible exact hP, hS.F ht⟩) hS.2.2 dL_acts_908
                          · refine lv_iconst (v := 1) hx hb dL_acts_903 (by decide) ?_
                            refine lv_goto (tgt := 908) hx hb dL_acts_904 (by decide) ?_
                            have hX : (xL_acts R F p9 vn wy kw o q) = ((1 : Int32), ((xX1_pass R F (nI (1 + (vn % 60))) o q).2.1), ((xX1_pass R F (nI (1 + (vn % 60))) o q).2.2)) := by unfold xL_acts; rw [if_neg c_29, if_neg c_76, if_pos c_116, if_pos c_337, if_neg c_407, if_pos c_735]; unfold cutL_acts_859; rw [if_pos c_867, if_neg c_889, if_pos c_900]
                            exact W.zret (v := (1 : Int32)) hx hb hr rfl (fun t ht hW => ⟨by rw [hX], by rw [hX, ht]; with_reducible exact hP, hS.F ht⟩) hS.2.2 dL_acts_908
                    · have n_735 : (wy) < (23) := Nat.lt_of_not_le (fun q => c_735 ((nI_leI (a := 23) (b := wy) (by omega) (by omega)).mpr q))
                      refine lv_iconst (v := 1) hx hb dL_acts_738 (by decide) ?_
                      refine lv_istore (lv' := [(13, .int (1 : Int32)), (12, .int (nI ((vn / 24) % kw))), (11, .int (nI (vn % 24))), (10, .int (nI wy)), (9, .int (nI vn)), (0, .ref (ad 0)), (1, .ref (ad 83)), (2, .ref (ad 84)), (3, .ref (ad 85)), (4, .ref (ad 86)), (5, .ref (ad 87)), (6, .ref (ad 88)), (7, .ref (ad 89)), (8, .int p9)]) hx hb dL_acts_739 hl (by decide) rfl (fun ls hl => ?_)
                      refine lv_iconst (v := 0) hx hb dL_acts_741 (by decide) ?_
                      refine lv_istore (lv' := [(14, .int (0 : Int32)), (13, .int (1 : Int32)), (12, .int (nI ((vn / 24) % kw))), (11, .int (nI (vn % 24))), (10, .int (nI wy)), (9, .int (nI vn)), (0, .ref (ad 0)), (1, .ref (ad 83)), (2, .ref (ad 84)), (3, .ref (ad 85)), (4, .ref (ad 86)), (5, .ref (ad 87)), (6, .ref (ad 88)), (7, .ref (ad 89)), (8, .int p9)]) hx hb dL_acts_742 hl (by decide) rfl (fun ls hl => ?_)
                      refine q_loop (fun nn H locs ls => ∃ (k : Nat) (x13 : Int32), k + nn = kw ∧ hL_acts_744 R F p9 vn wy kw o q nn k x13 = (xL_acts R F p9 vn wy kw o q) ∧ WP D cI cS ad R F H ∧ va_S (AA ad) s.heap H locs ∧ lv_has ls 16 [(14, .int (nI k)), (13, .int x13), (12, .int (nI ((vn / 24) % kw))), (11, .int (nI (vn % 24))), (10, .int (nI wy)), (9, .int (nI vn)), (0, .ref (ad 0)), (1, .ref (ad 83)), (2, .ref (ad 84)), (3, .ref (ad 85)), (4, .ref (ad 86)), (5, .ref (ad 87)), (6, .ref (ad 88)), (7, .ref (ad 89)), (8, .int p9)]) kw ⟨0, (1 : Int32), by omega, by unfold xL_acts; rw [if_neg c_29, if_neg c_76, if_pos c_116, if_pos c_337, if_neg c_407, if_neg c_735]; unfold cutL_acts_738; rfl, hP, hS, lv_sub hl [0, 1, 2, 3, 4, 5, 6, 7, 8, 9, 10, 11, 12, 13, 14] rfl⟩ ?_ ?_
                      · intro H locs ls hz
                        obtain ⟨k, x13, hkn, hsp, hP, hS, hl⟩ := hz
                        refine lv_iload hx hb dL_acts_744 (lv_at hl 0 rfl) ?_
                        refine lv_aload_n hx hb dL_acts_746 rfl (lv_at hl 7 rfl) ?_
                        refine lv_iconst (v := 1) hx hb dL_acts_747 (by decide) ?_
                        refine q_ildN hx hb hK hP 83 6 (ar_83) 1 dL_acts_748 rfl (by omega) (by decide) ?_
                        refine q_top (y := (nI kw)) hW ?_
                        refine lv_icmp_ge (tgt := 801) hx hb dL_acts_749 (by decide) (fun c_749 => ?_) (fun c_749 => ?_)
                        · refine lv_iload hx hb dL_acts_801 (lv_at hl 1 rfl) ?_
                          refine lv_if_ne (tgt := 823) hx hb dL_acts_803 (by decide) (fun c_803 => ?_) (fun c_803 => ?_)
                          · refine lv_aload hx hb dL_acts_823 (lv_at hl 10 rfl) ?_
                            refine lv_iload hx hb dL_acts_825 (lv_at hl 3 rfl) ?_
                            refine lv_aload_n hx hb dL_acts_827 rfl (lv_at hl 8 rfl) ?_
                            refine lv_iload hx hb dL_acts_828 (lv_at hl 3 rfl) ?_
                            refine q_ildN hx hb hK hP 84 24 (ar_84) (vn % 24) dL_acts_830 rfl (by omega) (by decide) ?_
                            refine q_istN hx hb hK hI hP hS 86 24 (ar_86) (vn % 24) dL_acts_831 rfl (by omega) (by decide) (fun H locs hP hS => ?_)
                            have hP : WP D cI cS ad (sR R 86 (vn % 24) (R 84 (vn % 24))) F H := hP
                            refine lv_aload hx hb dL_acts_832 (lv_at hl 11 rfl) ?_
                            refine lv_iload hx hb dL_acts_834 (lv_at hl 3 rfl) ?_
                            refine lv_aload_n hx hb dL_acts_836 rfl (lv_at hl 7 rfl) ?_
                            refine lv_iconst (v := 0) hx hb dL_acts_837 (by decide) ?_
                            refine q_ildN hx hb hK hP 83 6 (ar_83) 0 dL_acts_838 rfl (by omega) (by decide) ?_
                            refine q_top (y := (R 83 0)) (congrFun (sR_ne (by decide) _ _) _) ?_
                            refine q_istN hx hb hK hI hP hS 87 24 (ar_87) (vn % 24) dL_acts_839 rfl (by omega) (by decide) (fun H locs hP hS => ?_)
                            have hP : WP D cI cS ad (sR (sR R 86 (vn % 24) (R 84 (vn % 24))) 87 (vn % 24) (R 83 0)) F H := hP
                            refine lv_aload_n hx hb dL_acts_840 rfl (lv_at hl 6 rfl) ?_
                            refine lv_iload hx hb dL_acts_841 (lv_at hl 3 rfl) ?_
                            refine q_callI (va_runV (As := [.int (nI (vn % 24))]) (rest := []) ⟨hx, hb, hml, hown, hts⟩ (mX1_tare l D cI cS ad hI (sR (sR R 86 (vn % 24) (R 84 (vn % 24))) 87 (vn % 24) (R 83 0)) F (nI (vn % 24)) o q ho hq hF0 hF1) (cwV 1 hts gL_acts_X1_tare rfl rfl rfl (by decide +kernel) ⟨Nat.le_of_ble_eq_true rfl, Nat.le_of_ble_eq_true rfl⟩) (PW_preV (i := 0) (by decide) CC_0 rfl rfl hK hP) rfl rfl hl.1 rfl (lv_room (Nat.le_of_ble_eq_true rfl)) dL_acts_843 ⟨Nat.zero_le _, Nat.zero_le _⟩) hS (fun H locs hP hS => ?_)
                            refine lv_aload_n hx hb dL_acts_846 rfl (lv_at hl 8 rfl) ?_
                            refine lv_iload hx hb dL_acts_847 (lv_at hl 3 rfl) ?_
                            refine q_ildN hx hb hK hP 84 24 (ar_84) (vn % 24) dL_acts_849 rfl (by omega) (by decide) ?_
                            refine lv_icmp_ne (tgt := 857) hx hb dL_acts_850 (by decide) (fun c_850 => ?_) (fun c_850 => ?_)
                            · refine lv_iconst (v := 0) hx hb dL_acts_857 (by decide) ?_
                              have hX : (xL_acts R F p9 vn wy kw o q) = ((0 : Int32), ((xX1_tare (sR (sR R 86 (vn % 24) (R 84 (vn % 24))) 87 (vn % 24) (R 83 0)) F (nI (vn % 24)) o q).2.1), ((xX1_tare (sR (sR R 86 (vn % 24) (R 84 (vn % 24))) 87 (vn % 24) (R 83 0)) F (nI (vn % 24)) o q).2.2)) := by rw [← hsp, hL_acts_744_z, if_neg c_803, if_neg c_850]
                              exact W.zret (v := (0 : Int32)) hx hb hr rfl (fun t ht hW => ⟨by rw [hX], by rw [hX, ht]; with_reducible exact hP, hS.F ht⟩) hS.2.2 dL_acts_858
                            · refine lv_iconst (v := 1) hx hb dL_acts_853 (by decide) ?_
                              refine lv_goto (tgt := 858) hx hb dL_acts_854 (by decide) ?_
                              have hX : (xL_acts R F p9 vn wy kw o q) = ((1 : Int32), ((xX1_tare (sR (sR R 86 (vn % 24) (R 84 (vn % 24))) 87 (vn % 24) (R 83 0)) F (nI (vn % 24)) o q).2.1), ((xX1_tare (sR (sR R 86 (vn % 24) (R 84 (vn % 24))) 87 (vn % 24) (R 83 0)) F (nI (vn % 24)) o q).2.2)) := by rw [← hsp, hL_acts_744_z, if_neg c_803, if_pos c_850]
                              exact W.zret (v := (1 : Int32)) hx hb hr rfl (fun t ht hW => ⟨by rw [hX], by rw [hX, ht]; with_reducible exact hP, hS.F ht⟩) hS.2.2 dL_acts_858
                          · refine lv_aload_n hx hb dL_acts_806 rfl (lv_at hl 6 rfl) ?_
                            refine lv_iload hx hb dL_acts_807 (lv_at hl 3 rfl) ?_
                            refine q_callI (va_runV (As := [.int (nI (vn % 24))]) (rest := []) ⟨hx, hb, hml, hown, hts⟩ (mX1_tare l D cI cS ad hI R F (nI (vn % 24)) o q ho hq hF0 hF1) (cwV 1 hts gL_acts_X1_tare rfl rfl rfl (by decide +kernel) ⟨Nat.le_of_ble_eq_true rfl, Nat.le_of_ble_eq_true rfl⟩) (PW_preV (i := 0) (by decide) CC_0 rfl rfl hK hP) rfl rfl hl.1 rfl (lv_room (Nat.le_of_ble_eq_true rfl)) dL_acts_809 ⟨Nat.zero_le _, Nat.zero_le _⟩) hS (fun H locs hP hS => ?_)
                            refine lv_ldc (v := -100002) hx hb hown lk33 dL_acts_812 ?_
                            refine lv_icmp_ne (tgt := 821) hx hb dL_acts_814 (by decide) (fun c_814 => ?_) (fun c_814 => ?_)
                            · refine lv_iconst (v := 0) hx hb dL_acts_821 (by decide) ?_
                              have hX : (xL_acts R F p9 vn wy kw o q) = ((0 : Int32), ((xX1_tare R F (nI (vn % 24)) o q).2.1), ((xX1_tare R F (nI (vn % 24)) o q).2.2)) := by rw [← hsp, hL_acts_744_z, if_pos c_803, if_neg c_814]
                              exact W.zret (v := (0 : Int32)) hx hb hr rfl (fun t ht hW => ⟨by rw [hX], by rw [hX, ht]; with_reducible exact hP, hS.F ht⟩) hS.2.2 dL_acts_822
                            · refine lv_iconst (v := 1) hx hb dL_acts_817 (by decide) ?_
                              refine lv_goto (tgt := 822) hx hb dL_acts_818 (by decide) ?_
                              have hX : (xL_acts R F p9 vn wy kw o q) = ((1 : Int32), ((xX1_tare R F (nI (vn % 24)) o q).2.1), ((xX1_tare R F (nI (vn % 24)) o q).2.2)) := by rw [← hsp, hL_acts_744_z, if_pos c_803, if_pos c_814]
                              exact W.zret (v := (1 : Int32)) hx hb hr rfl (fun t ht hW => ⟨by rw [hX], by rw [hX, ht]; with_reducible exact hP, hS.F ht⟩) hS.2.2 dL_acts_822
                        · exact absurd (nI_le (a := kw) (b := k) (by omega) (by omega)) c_749
                      · intro n ih H locs ls hz
                        obtain ⟨k, x13, hkn, hsp, hP, hS, hl⟩ := hz
                        refine lv_iload hx hb dL_acts_744 (lv_at hl 0 rfl) ?_
                        refine lv_aload_n hx hb dL_acts_746 rfl (lv_at hl 7 rfl) ?_
                        refine lv_iconst (v := 1) hx hb dL_acts_747 (by decide) ?_
                        refine q_ildN hx hb hK hP 83 6 (ar_83) 1 dL_acts_748 rfl (by omega) (by decide) ?_
                        refine q_top (y := (nI kw)) hW ?_
                        refine lv_icmp_ge (tgt := 801) hx hb dL_acts_749 (by decide) (fun c_749 => ?_) (fun c_749 => ?_)
                        · exact absurd c_749 (nI_ge (a := k) (b := kw) (by omega) (by omega))
                        · refine lv_iload hx hb dL_acts_752 (lv_at hl 1 rfl) ?_
                          refine lv_if_eq (tgt := 792) hx hb dL_acts_754 (by decide) (fun c_754 => ?_) (fun c_754 => ?_)
                          · refine lv_iconst (v := 0) hx hb dL_acts_792 (by decide) ?_
                            refine lv_istore (lv' := [(13, .int (0 : Int32)), (14, .int (nI k)), (12, .int (nI ((vn / 24) % kw))), (11, .int (nI (vn % 24))), (10, .int (nI wy)), (9, .int (nI vn)), (0, .ref (ad 0)), (1, .ref (ad 83)), (2, .ref (ad 84)), (3, .ref (ad 85)), (4, .ref (ad 86)), (5, .ref (ad 87)), (6, .ref (ad 88)), (7, .ref (ad 89)), (8, .int p9)]) hx hb dL_acts_793 hl (by decide) rfl (fun ls hl => ?_)
                            refine lv_iinc (v := (nI (k + 1))) (lv' := [(14, .int (nI (k + 1))), (13, .int (0 : Int32)), (12, .int (nI ((vn / 24) % kw))), (11, .int (nI (vn % 24))), (10, .int (nI wy)), (9, .int (nI vn)), (0, .ref (ad 0)), (1, .ref (ad 83)), (2, .ref (ad 84)), (3, .ref (ad 85)), (4, .ref (ad 86)), (5, .ref (ad 87)), (6, .ref (ad 88)), (7, .ref (ad 89)), (8, .int p9)]) hx hb dL_acts_795 hl (k := 1) rfl (nI_1 k) (by decide) rfl (fun ls hl => ?_)
                            refine lv_goto (tgt := 744) hx hb dL_acts_798 (by decide) ?_
                            exact ih _ _ _ ⟨(k + 1), (0 : Int32), by omega, by rw [← hsp, hL_acts_744_s, if_pos c_754], hP, hS, lv_sub hl [0, 1, 2, 3, 4, 5, 6, 7, 8, 9, 10, 11, 12, 13, 14] rfl⟩
                          · refine lv_aload hx hb dL_acts_757 (lv_at hl 12 rfl) ?_
                            refine lv_iconst (v := 5) hx hb dL_acts_759 (by decide) ?_
                            refine lv_iload hx hb dL_acts_760 (lv_at hl 0 rfl) ?_
                            refine lv_imul hx hb dL_acts_762 ?_
                            refine q_top (y := (nI (5 * k))) (pk_mul 5 k) ?_
                            refine lv_iconst (v := 1) hx hb dL_acts_763 (by decide) ?_
                            refine lv_iadd hx hb dL_acts_764 ?_
                            refine q_top (y := (nI ((5 * k) + 1))) (nI_add (5 * k) 1) ?_
                            refine q_ildN hx hb hK hP 88 40 (ar_88) ((5 * k) + 1) dL_acts_765 rfl (by omega) (by decide) ?_
                            refine lv_if_lt (tgt := 788) hx hb dL_acts_766 (by decide) (fun c_766 => ?_) (fun c_766 => ?_)
                            · refine lv_iconst (v := 1) hx hb dL_acts_788 (by decide) ?_
                              refine lv_goto (tgt := 793) hx hb dL_acts_789 (by decide) ?_
                              refine lv_istore (lv' := [(13, .int (1 : Int32)), (14, .int (nI k)), (12, .int (nI ((vn / 24) % kw))), (11, .int (nI (vn % 24))), (10, .int (nI wy)), (9, .int (nI vn)), (0, .ref (ad 0)), (1, .ref (ad 83)), (2, .ref (ad 84)), (3, .ref (ad 85)), (4, .ref (ad 86)), (5, .ref (ad 87)), (6, .ref (ad 88)), (7, .ref (ad 89)), (8, .int p9)]) hx hb dL_acts_793 hl (by decide) rfl (fun ls hl => ?_)
                              refine lv_iinc (v := (nI (k + 1))) (lv' := [(14, .int (nI (k + 1))), (13, .int (1 : Int32)), (12, .int (nI ((vn / 24) % kw))), (11, .int (nI (vn % 24))), (10, .int (nI wy)), (9, .int (nI vn)), (0, .ref (ad 0)), (1, .ref (ad 83)), (2, .ref (ad 84)), (3, .ref (ad 85)), (4, .ref (ad 86)), (5, .ref (ad 87)), (6, .ref (ad 88)), (7, .ref (ad 89)), (8, .int p9)]) hx hb dL_acts_795 hl (k := 1) rfl (nI_1 k) (by decide) rfl (fun ls hl => ?_)
                              refine lv_goto (tgt := 744) hx hb dL_acts_798 (by decide) ?_
                              exact ih _ _ _ ⟨(k + 1), (1 : Int32), by omega, by rw [← hsp, hL_acts_744_s, if_neg c_754, if_pos c_766], hP, hS, lv_sub hl [0, 1, 2, 3, 4, 5, 6, 7, 8, 9, 10, 11, 12, 13, 14] rfl⟩
                            · refine lv_bipush (v := 8) hx hb dL_acts_769 (by decide) ?_
                              refine lv_aload hx hb dL_acts_771 (lv_at hl 12 rfl) ?_
                              refine lv_iconst (v := 5) hx hb dL_acts_773 (by decide) ?_
                              refine lv_iload hx hb dL_acts_774 (lv_at hl 0 rfl) ?_
                              refine lv_imul hx hb dL_acts_776 ?_
                              refine q_top (y := (nI (5 * k))) (pk_mul 5 k) ?_
                              refine lv_iconst (v := 1) hx hb dL_acts_777 (by decide) ?_
                              refine lv_iadd hx hb dL_acts_778 ?_
                              refine q_top (y := (nI ((5 * k) + 1))) (nI_add (5 * k) 1) ?_
                              refine q_ildN hx hb hK hP 88 40 (ar_88) ((5 * k) + 1) dL_acts_779 rfl (by omega) (by decide) ?_
                              refine lv_iload hx hb dL_acts_780 (lv_at hl 3 rfl) ?_
                              refine q_callS (va_runS (As := [.int (8 : Int32), .int (R 88 ((5 * k) + 1)), .int (nI (vn % 24))]) (rest := []) ⟨hx, hb, hml, hown, hts⟩ (mL_share l D cI cS ad hI R F (8 : Int32) (R 88 ((5 * k) + 1)) (nI (vn % 24))) (va_cwS 3 hts gL_acts_L_share rfl rfl rfl (by decide +kernel) ⟨Nat.le_of_ble_eq_true rfl, Nat.le_of_ble_eq_true rfl⟩) (PW_preS hK hP) rfl rfl hl.1 rfl (lv_room (Nat.le_of_ble_eq_true rfl)) dL_acts_782 ⟨Nat.zero_le _, Nat.zero_le _⟩) ?_
                              refine lv_if_ne (tgt := 792) hx hb dL_acts_785 (by decide) (fun c_785 => ?_) (fun c_785 => ?_)
                              · refine lv_iconst (v := 0) hx hb dL_acts_792 (by decide) ?_
                                refine lv_istore (lv' := [(13, .int (0 : Int32)), (14, .int (nI k)), (12, .int (nI ((vn / 24) % kw))), (11, .int (nI (vn % 24))), (10, .int (nI wy)), (9, .int (nI vn)), (0, .ref (ad 0)), (1, .ref (ad 83)), (2, .ref (ad 84)), (3, .ref (ad 85)), (4, .ref (ad 86)), (5, .ref (ad 87)), (6, .ref (ad 88)), (7, .ref (ad 89)), (8, .int p9)]) hx hb dL_acts_793 hl (by decide) rfl (fun ls hl => ?_)
                                refine lv_iinc (v := (nI (k + 1))) (lv' := [(14, .int (nI (k + 1))), (13, .int (0 : Int32)), (12, .int (nI ((vn / 24) % kw))), (11, .int (nI (vn % 24))), (10, .int (nI wy)), (9, .int (nI vn)), (0, .ref (ad 0)), (1, .ref (ad 83)), (2, .ref (ad 84)), (3, .ref (ad 85)), (4, .ref (ad 86)), (5, .ref (ad 87)), (6, .ref (ad 88)), (7, .ref (ad 89)), (8, .int p9)]) hx hb dL_acts_795 hl (k := 1) rfl (nI_1 k) (by decide) rfl (fun ls hl => ?_)
                                refine lv_goto (tgt := 744) hx hb dL_acts_798 (by decide) ?_
                                exact ih _ _ _ ⟨(k + 1), (0 : Int32), by omega, by rw [← hsp, hL_acts_744_s, if_neg c_754, if_neg c_766, if_neg c_785], hP, hS, lv_sub hl [0, 1, 2, 3, 4, 5, 6, 7, 8, 9, 10, 11, 12, 13, 14] rfl⟩
                              · refine lv_iconst (v := 1) hx hb dL_acts_788 (by decide) ?_
                                refine lv_goto (tgt := 793) hx hb dL_acts_789 (by decide) ?_
                                refine lv_istore (lv' := [(13, .int (1 : Int32)), (14, .int (nI k)), (12, .int (nI ((vn / 24) % kw))), (11, .int (nI (vn % 24))), (10, .int (nI wy)), (9, .int (nI vn)), (0, .ref (ad 0)), (1, .ref (ad 83)), (2, .ref (ad 84)), (3, .ref (ad 85)), (4, .ref (ad 86)), (5, .ref (ad 87)), (6, .ref (ad 88)), (7, .ref (ad 89)), (8, .int p9)]) hx hb dL_acts_793 hl (by decide) rfl (fun ls hl => ?_)
                                refine lv_iinc (v := (nI (k + 1))) (lv' := [(14, .int (nI (k + 1))), (13, .int (1 : Int32)), (12, .int (nI ((vn / 24) % kw))), (11, .int (nI (vn % 24))), (10, .int (nI wy)), (9, .int (nI vn)), (0, .ref (ad 0)), (1, .ref (ad 83)), (2, .ref (ad 84)), (3, .ref (ad 85)), (4, .ref (ad 86)), (5, .ref (ad 87)), (6, .ref (ad 88)), (7, .ref (ad 89)), (8, .int p9)]) hx hb dL_acts_795 hl (k := 1) rfl (nI_1 k) (by decide) rfl (fun ls hl => ?_)
                                refine lv_goto (tgt := 744) hx hb dL_acts_798 (by decide) ?_
                                exact ih _ _ _ ⟨(k + 1), (1 : Int32), by omega, by rw [← hsp, hL_acts_744_s, if_neg c_754, if_neg c_766, if_pos c_785], hP, hS, lv_sub hl [0, 1, 2, 3, 4, 5, 6, 7, 8, 9, 10, 11, 12, 13, 14] rfl⟩
                  · exact absurd c_337 c_699
                · have n_570 : (wy) = (14) := (nI_eq (a := wy) (b := 14) (by omega) (by omega)).mp c_570
                  exfalso
                  omega
              · have n_538 : (wy) < (14) := Nat.lt_of_not_le (fun q => c_538 ((nI_leI (a := 14) (b := wy) (by omega) (by omega)).mpr q))
                exfalso
                omega
            · have n_429 : (wy) < (10) := Nat.lt_of_not_le (fun q => c_429 ((nI_leI (a := 10) (b := wy) (by omega) (by omega)).mpr q))
              exfalso
              omega
          · have n_407 : (kw) = (0) := (nI_eq (a := kw) (b := 0) (by omega) (by omega)).mp c_407
            refine lv_iconst (v := 0) hx hb dL_acts_410 (by decide) ?_
            refine lv_goto (tgt := 423) hx hb dL_acts_411 (by decide) ?_
            refine lv_istore (lv' := [(12, .int (0 : Int32)), (11, .int (nI (vn % 24))), (10, .int (nI wy)), (9, .int (nI vn)), (0, .ref (ad 0)), (1, .ref (ad 83)), (2, .ref (ad 84)), (3, .ref (ad 85)), (4, .ref (ad 86)), (5, .ref (ad 87)), (6, .ref (ad 88)), (7, .ref (ad 89)), (8, .int p9)]) hx hb dL_acts_423 hl (by decide) rfl (fun ls hl => ?_)
            refine lv_iload hx hb dL_acts_425 (lv_at hl 2 rfl) ?_
            refine lv_bipush (v := 10) hx hb dL_acts_427 (by decide) ?_
            refine lv_icmp_ge (tgt := 534) hx hb dL_acts_429 (by decide) (fun c_429 => ?_) (fun c_429 => ?_)
            · have n_429 : (10) ≤ (wy) := (nI_leI (a := 10) (b := wy) (by omega) (by omega)).mp c_429
              refine lv_iload hx hb dL_acts_534 (lv_at hl 2 rfl) ?_
              refine lv_bipush (v := 14) hx hb dL_acts_536 (by decide) ?_
              refine lv_icmp_ge (tgt := 566) hx hb dL_acts_538 (by decide) (fun c_538 => ?_) (fun c_538 => ?_)
              · have n_538 : (14) ≤ (wy) := (nI_leI (a := 14) (b := wy) (by omega) (by omega)).mp c_538
                refine lv_iload hx hb dL_acts_566 (lv_at hl 2 rfl) ?_
                refine lv_bipush (v := 14) hx hb dL_acts_568 (by decide) ?_
                refine lv_icmp_ne (tgt := 695) hx hb dL_acts_570 (by decide) (fun c_570 => ?_) (fun c_570 => ?_)
                · have n_570 : ¬ (wy) = (14) := fun q => c_570 ((nI_eq (a := wy) (b := 14) (by omega) (by omega)).mpr q)
                  refine lv_iload hx hb dL_acts_695 (lv_at hl 2 rfl) ?_
                  refine lv_bipush (v := 20) hx hb dL_acts_697 (by decide) ?_
                  refine lv_icmp_ge (tgt := 731) hx hb dL_acts_699 (by decide) (fun c_699 => ?_) (fun c_699 => ?_)
                  · refine lv_iload hx hb dL_acts_731 (lv_at hl 2 rfl) ?_
                    refine lv_bipush (v := 23) hx hb dL_acts_733 (by decide) ?_
                    refine lv_icmp_ge (tgt := 859) hx hb dL_acts_735 (by decide) (fun c_735 => ?_) (fun c_735 => ?_)
                    · have n_735 : (23) ≤ (wy) := (nI_leI (a := 23) (b := wy) (by omega) (by omega)).mp c_735
                      refine lv_iconst (v := 1) hx hb dL_acts_859 (by decide) ?_
                      refine lv_iload hx hb dL_acts_860 (lv_at hl 3 rfl) ?_
                      refine lv_iload hx hb dL_acts_862 (lv_at hl 3 rfl) ?_
                      refine lv_bipush (v := 9) hx hb dL_acts_864 (by decide) ?_
                      refine lv_irem hx hb dL_acts_866 (by decide) ?_
                      refine q_top (y := (nI (vn % 9))) (pk_rem (a := vn) (d := 9) (by omega) (by omega) (by omega)) ?_
                      refine lv_if_ne (tgt := 875) hx hb dL_acts_867 (by decide) (fun c_867 => ?_) (fun c_867 => ?_)
                      · have n_867 : ¬ ((vn % 9)) = (0) := fun q => c_867 ((nI_eq (a := (vn % 9)) (b := 0) (by omega) (by omega)).mpr q)
                        refine lv_iconst (v := 4) hx hb dL_acts_875 (by decide) ?_
                        refine lv_irem hx hb dL_acts_876 (by decide) ?_
                        refine q_top (y := (nI (vn % 4))) (pk_rem (a := vn) (d := 4) (by omega) (by omega) (by omega)) ?_
                        refine lv_iadd hx hb dL_acts_877 ?_
                        refine q_top (y := (nI (1 + (vn % 4)))) (nI_add 1 (vn % 4)) ?_
                        refine lv_istore (lv' := [(13, .int (nI (1 + (vn % 4)))), (12, .int (0 : Int32)), (11, .int (nI (vn % 24))), (10, .int (nI wy)), (9, .int (nI vn)), (0, .ref (ad 0)), (1, .ref (ad 83)), (2, .ref (ad 84)), (3, .ref (ad 85)), (4, .ref (ad 86)), (5, .ref (ad 87)), (6, .ref (ad 88)), (7, .ref (ad 89)), (8, .int p9)]) hx hb dL_acts_878 hl (by decide) rfl (fun ls hl => ?_)
                        refine lv_aload_n hx hb dL_acts_880 rfl (lv_at hl 6 rfl) ?_
                        refine lv_iconst (v := 0) hx hb dL_acts_881 (by decide) ?_
                        refine q_ildN hx hb hK hP 83 6 (ar_83) 0 dL_acts_882 rfl (by omega) (by decide) ?_
                        refine lv_iload hx hb dL_acts_883 (lv_at hl 0 rfl) ?_
                        refine lv_iadd hx hb dL_acts_885 ?_
                        refine lv_sipush (v := 2000) hx hb dL_acts_886 (by decide) ?_
                        refine lv_icmp_le (tgt := 909) hx hb dL_acts_889 (by decide) (fun c_889 => ?_) (fun c_889 => ?_)
                        · refine lv_aload_n hx hb dL_acts_909 rfl (lv_at hl 6 rfl) ?_
                          refine lv_iconst (v := 0) hx hb dL_acts_910 (by decide) ?_
                          refine lv_dup2_11 hx hb dL_acts_911 rfl rfl ?_
                          refine q_ildN hx hb hK hP 83 6 (ar_83) 0 dL_acts_912 rfl (by omega) (by decide) ?_
                          refine lv_iload hx hb dL_acts_913 (lv_at hl 0 rfl) ?_
                          refine lv_iadd hx hb dL_acts_915 ?_
                          refine q_istN hx hb hK hI hP hS 83 6 (ar_83) 0 dL_acts_916 rfl (by omega) (by decide) (fun H locs hP hS => ?_)
                          have hP : WP D cI cS ad (sR R 83 0 ((R 83 0) + (nI (1 + (vn % 4))))) F H := hP
                          refine lv_iconst (v := 0) hx hb dL_acts_917 (by decide) ?_
                          refine lv_istore (lv' := [(14, .int (0 : Int32)), (13, .int (nI (1 + (vn % 4)))), (12, .int (0 : Int32)), (11, .int (nI (vn % 24))), (10, .int (nI wy)), (9, .int (nI vn)), (0, .ref (ad 0)), (1, .ref (ad 83)), (2, .ref (ad 84)), (3, .ref (ad 85)), (4, .ref (ad 86)), (5, .ref (ad 87)), (6, .ref (ad 88)), (7, .ref (ad 89)), (8, .int p9)]) hx hb dL_acts_918 hl (by decide) rfl (fun ls hl => ?_)
                          refine q_loop (fun nn H locs ls => ∃ (k : Nat) (R1 : Nat → Nat → Int32), k + nn = 24 ∧ hL_acts_920 R F p9 vn wy kw o q nn k R1 = (xL_acts R F p9 vn wy kw o q) ∧ WP D cI cS ad R1 F H ∧ va_S (AA ad) s.heap H locs ∧ lv_has ls 16 [(14, .int (nI k)), (13, .int (nI (1 + (vn % 4)))), (12, .int (0 : Int32)), (11, .int (nI (vn % 24))), (10, .int (nI wy)), (9, .int (nI vn)), (0, .ref (ad 0)), (1, .ref (ad 83)), (2, .ref (ad 84)), (3, .ref (ad 85)), (4, .ref (ad 86)), (5, .ref (ad 87)), (6, .ref (ad 88)), (7, .ref (ad 89)), (8, .int p9)]) 24 ⟨0, (sR R 83 0 ((R 83 0) + (nI (1 + (vn % 4))))), by omega, by unfold xL_acts; rw [if_neg c_29, if_neg c_76, if_pos c_116, if_pos c_337, if_pos c_407, if_pos c_735]; unfold cutL_acts_859; rw [if_neg c_867, if_pos c_889], hP, hS, lv_sub hl [0, 1, 2, 3, 4, 5, 6, 7, 8, 9, 10, 11, 12, 13, 14] rfl⟩ ?_ ?_
                          · intro H locs ls hz
                            obtain ⟨k, R1, hkn, hsp, hP, hS, hl⟩ := hz
                            refine lv_iload hx hb dL_acts_920 (lv_at hl 0 rfl) ?_
                            refine lv_bipush (v := 24) hx hb dL_acts_922 (by decide) ?_
                            refine lv_icmp_ge (tgt := 947) hx hb dL_acts_924 (by decide) (fun c_924 => ?_) (fun c_924 => ?_)
                            · refine lv_aload_n hx hb dL_acts_947 rfl (lv_at hl 6 rfl) ?_
                              refine lv_iload hx hb dL_acts_948 (lv_at hl 1 rfl) ?_
                              refine q_callI (va_runV (As := [.int (nI (1 + (vn % 4)))]) (rest := []) ⟨hx, hb, hml, hown, hts⟩ (mX1_pass l D cI cS ad hI R1 F (nI (1 + (vn % 4))) o q ho hq hF0 hF1) (cwV 1 hts gL_acts_X1_pass rfl rfl rfl (by decide +kernel) ⟨Nat.le_of_ble_eq_true rfl, Nat.le_of_ble_eq_true rfl⟩) (PW_preV (i := 0) (by decide) CC_0 rfl rfl hK hP) rfl rfl hl.1 rfl (lv_room (Nat.le_of_ble_eq_true rfl)) dL_acts_950 ⟨Nat.zero_le _, Nat.zero_le _⟩) hS (fun H locs hP hS => ?_)
                              refine lv_aload_n hx hb dL_acts_953 rfl (lv_at hl 7 rfl) ?_
                              refine lv_iconst (v := 0) hx hb dL_acts_954 (by decide) ?_
                              refine q_ildN hx hb hK hP 83 6 (ar_83) 0 dL_acts_955 rfl (by omega) (by decide) ?_
                              refine lv_icmp_ne (tgt := 963) hx hb dL_acts_956 (by decide) (fun c_956 => ?_) (fun c_956 => ?_)
                              · refine lv_iconst (v := 0) hx hb dL_acts_963 (by decide) ?_
                                have hX : (xL_acts R F p9 vn wy kw o q) = ((0 : Int32), ((xX1_pass R1 F (nI (1 + (vn % 4))) o q).2.1), ((xX1_pass R1 F (nI (1 + (vn % 4))) o q).2.2)) := by rw [← hsp, hL_acts_920_z, if_neg c_956]
                                exact W.zret (v := (0 : Int32)) hx hb hr rfl (fun t ht hW => ⟨by rw [hX], by rw [hX, ht]; with_reducible exact hP, hS.F ht⟩) hS.2.2 dL_acts_964
                              · refine lv_iconst (v := 1) hx hb dL_acts_959 (by decide) ?_
                                refine lv_goto (tgt := 964) hx hb dL_acts_960 (by decide) ?_
                                have hX : (xL_acts R F p9 vn wy kw o q) = ((1 : Int32), ((xX1_pass R1 F (nI (1 + (vn % 4))) o q).2.1), ((xX1_pass R1 F (nI (1 + (vn % 4))) o q).2.2)) := by rw [← hsp, hL_acts_920_z, if_pos c_956]
                                exact W.zret (v := (1 : Int32)) hx hb hr rfl (fun t ht hW => ⟨by rw [hX], by rw [hX, ht]; with_reducible exact hP, hS.F ht⟩) hS.2.2 dL_acts_964
                            · exact absurd (nI_le (a := 24) (b := k) (by omega) (by omega)) c_924
                          · intro n ih H locs ls hz
                            obtain ⟨k, R1, hkn, hsp, hP, hS, hl⟩ := hz
                            refine lv_iload hx hb dL_acts_920 (lv_at hl 0 rfl) ?_
                            refine lv_bipush (v := 24) hx hb dL_acts_922 (by decide) ?_
                            refine lv_icmp_ge (tgt := 947) hx hb dL_acts_924 (by decide) (fun c_924 => ?_) (fun c_924 => ?_)
                            · exact absurd c_924 (nI_ge (a := k) (b := 24) (by omega) (by omega))
                            · refine lv_aload_n hx hb dL_acts_927 rfl (lv_at hl 8 rfl) ?_
                              refine lv_iload hx hb dL_acts_928 (lv_at hl 0 rfl) ?_
                              refine lv_dup2_11 hx hb dL_acts_930 rfl rfl ?_
                              refine q_ildN hx hb hK hP 84 24 (ar_84) k dL_acts_931 rfl (by omega) (by decide) ?_
                              refine lv_aload_n hx hb dL_acts_932 rfl (lv_at hl 9 rfl) ?_
                              refine lv_iload hx hb dL_acts_933 (lv_at hl 0 rfl) ?_
                              refine q_ildN hx hb hK hP 85 24 (ar_85) k dL_acts_935 rfl (by omega) (by decide) ?_
                              refine lv_iload hx hb dL_acts_936 (lv_at hl 1 rfl) ?_
                              refine lv_imul hx hb dL_acts_938 ?_
                              refine lv_iadd hx hb dL_acts_939 ?_
                              refine q_istN hx hb hK hI hP hS 84 24 (ar_84) k dL_acts_940 rfl (by omega) (by decide) (fun H locs hP hS => ?_)
                              have hP : WP D cI cS ad (sR R1 84 k ((R1 84 k) + ((R1 85 k) * (nI (1 + (vn % 4)))))) F H := hP
                              refine lv_iinc (v := (nI (k + 1))) (lv' := [(14, .int (nI (k + 1))), (13, .int (nI (1 + (vn % 4)))), (12, .int (0 : Int32)), (11, .int (nI (vn % 24))), (10, .int (nI wy)), (9, .int (nI vn)), (0, .ref (ad 0)), (1, .ref (ad 83)), (2, .ref (ad 84)), (3, .ref (ad 85)), (4, .ref (ad 86)), (5, .ref (ad 87)), (6, .ref (ad 88)), (7, .ref (ad 89)), (8, .int p9)]) hx hb dL_acts_941 hl (k := 0) rfl (nI_1 k) (by decide) rfl (fun ls hl => ?_)
                              refine lv_goto (tgt := 920) hx hb dL_acts_944 (by decide) ?_
                              exact ih _ _ _ ⟨(k + 1), (sR R1 84 k ((R1 84 k) + ((R1 85 k) * (nI (1 + (vn % 4)))))), by omega, by rw [← hsp, hL_acts_920_s], hP, hS, lv_sub hl [0, 1, 2, 3, 4, 5, 6, 7, 8, 9, 10, 11, 12, 13, 14] rfl⟩
                        · refine lv_aload_n hx hb dL_acts_892 rfl (lv_at hl 5 rfl) ?_
                          refine lv_iload hx hb dL_acts_893 (lv_at hl 0 rfl) ?_
                          refine q_callI (va_runV (As := [.int (nI (1 + (vn % 4)))]) (rest := []) ⟨hx, hb, hml, hown, hts⟩ (mX1_pass l D cI cS ad hI R F (nI (1 + (vn % 4))) o q ho hq hF0 hF1) (cwV 1 hts gL_acts_X1_pass rfl rfl rfl (by decide +kernel) ⟨Nat.le_of_ble_eq_true rfl, Nat.le_of_ble_eq_true rfl⟩) (PW_preV (i := 0) (by decide) CC_0 rfl rfl hK hP) rfl rfl hl.1 rfl (lv_room (Nat.le_of_ble_eq_true rfl)) dL_acts_895 ⟨Nat.zero_le _, Nat.zero_le _⟩) hS (fun H locs hP hS => ?_)
                          refine lv_ldc (v := -100002) hx hb hown lk33 dL_acts_898 ?_
                          refine lv_icmp_ne (tgt := 907) hx hb dL_acts_900 (by decide) (fun c_900 => ?_) (fun c_900 => ?_)
                          · refine lv_iconst (v := 0) hx hb dL_acts_907 (by decide) ?_
                            have hX : (xL_acts R F p9 vn wy kw o q) = ((0 : Int32), ((xX1_pass R F (nI (1 + (vn % 4))) o q).2.1), ((xX1_pass R F (nI (1 + (vn % 4))) o q).2.2)) := by unfold xL_acts; rw [if_neg c_29, if_neg c_76, if_pos c_116, if_pos c_337, if_pos c_407, if_pos c_735]; unfold cutL_acts_859; rw [if_neg c_867, if_neg c_889, if_neg c_900]
                            exact W.zret (v := (0 : Int32)) hx hb hr rfl (fun t ht hW => ⟨by rw [hX], by rw [hX, ht]; with_reducible exact hP, hS.F ht⟩) hS.2.2 dL_acts_908
                          · refine lv_iconst (v := 1) hx hb dL_acts_903 (by decide) ?_
                            refine lv_goto (tgt := 908) hx hb dL_acts_904 (by decide) ?_
                            have hX : (xL_acts R F p9 vn wy kw o q) = ((1 : Int32), ((xX1_pass R F (nI (1 + (vn % 4))) o q).2.1), ((xX1_pass R F (nI (1 + (vn % 4))) o q).2.2)) := by unfold xL_acts; rw [if_neg c_29, if_neg c_76, if_pos c_116, if_pos c_337, if_pos c_407, if_pos c_735]; unfold cutL_acts_859; rw [if_neg c_867, if_neg c_889, if_pos c_900]
                            exact W.zret (v := (1 : Int32)) hx hb hr rfl (fun t ht hW => ⟨by rw [hX], by rw [hX, ht]; with_reducible exact hP, hS.F ht⟩) hS.2.2 dL_acts_908
                      · have n_867 : ((vn % 9)) = (0) := (nI_eq (a := (vn % 9)) (b := 0) (by omega) (by omega)).mp c_867
                        refine lv_bipush (v := 60) hx hb dL_acts_870 (by decide) ?_
                        refine lv_goto (tgt := 876) hx hb dL_acts_872 (by decide) ?_
                        refine lv_irem hx hb dL_acts_876 (by decide) ?_
                        refine q_top (y := (nI (vn % 60))) (pk_rem (a := vn) (d := 60) (by omega) (by omega) (by omega)) ?_
                        refine lv_iadd hx hb dL_acts_877 ?_
                        refine q_top (y := (nI (1 + (vn % 60)))) (nI_add 1 (vn % 60)) ?_
                        refine lv_istore (lv' := [(13, .int (nI (1 + (vn % 60)))), (12, .int (0 : Int32)), (11, .int (nI (vn % 24))), (10, .int (nI wy)), (9, .int (nI vn)), (0, .ref (ad 0)), (1, .ref (ad 83)), (2, .ref (ad 84)), (3, .ref (ad 85)), (4, .ref (ad 86)), (5, .ref (ad 87)), (6, .ref (ad 88)), (7, .ref (ad 89)), (8, .int p9)]) hx hb dL_acts_878 hl (by decide) rfl (fun ls hl => ?_)
                        refine lv_aload_n hx hb dL_acts_880 rfl (lv_at hl 6 rfl) ?_
                        refine lv_iconst (v := 0) hx hb dL_acts_881 (by decide) ?_
                        refine q_ildN hx hb hK hP 83 6 (ar_83) 0 dL_acts_882 rfl (by omega) (by decide) ?_
                        refine lv_iload hx hb dL_acts_883 (lv_at hl 0 rfl) ?_
                        refine lv_iadd hx hb dL_acts_885 ?_
                        refine lv_sipush (v := 2000) hx hb dL_acts_886 (by decide) ?_
                        refine lv_icmp_le (tgt := 909) hx hb dL_acts_889 (by decide) (fun c_889 => ?_) (fun c_889 => ?_)
                        · refine lv_aload_n hx hb dL_acts_909 rfl (lv_at hl 6 rfl) ?_
                          refine lv_iconst (v := 0) hx hb dL_acts_910 (by decide) ?_
                          refine lv_dup2_11 hx hb dL_acts_911 rfl rfl ?_
                          refine q_ildN hx hb hK hP 83 6 (ar_83) 0 dL_acts_912 rfl (by omega) (by decide) ?_
                          refine lv_iload hx hb dL_acts_913 (lv_at hl 0 rfl) ?_
                          refine lv_iadd hx hb dL_acts_915 ?_
                          refine q_istN hx hb hK hI hP hS 83 6 (ar_83) 0 dL_acts_916 rfl (by omega) (by decide) (fun H locs hP hS => ?_)
                          have hP : WP D cI cS ad (sR R 83 0 ((R 83 0) + (nI (1 + (vn % 60))))) F H := hP
                          refine lv_iconst (v := 0) hx hb dL_acts_917 (by decide) ?_
                          refine lv_istore (lv' := [(14, .int (0 : Int32)), (13, .int (nI (1 + (vn % 60)))), (12, .int (0 : Int32)), (11, .int (nI (vn % 24))), (10, .int (nI wy)), (9, .int (nI vn)), (0, .ref (ad 0)), (1, .ref (ad 83)), (2, .ref (ad 84)), (3, .ref (ad 85)), (4, .ref (ad 86)), (5, .ref (ad 87)), (6, .ref (ad 88)), (7, .ref (ad 89)), (8, .int p9)]) hx hb dL_acts_918 hl (by decide) rfl (fun ls hl => ?_)
                          refine q_loop (fun nn H locs ls => ∃ (k : Nat) (R1 : Nat → Nat → Int32), k + nn = 24 ∧ hL_acts_920b R F p9 vn wy kw o q nn k R1 = (xL_acts R F p9 vn wy kw o q) ∧ WP D cI cS ad R1 F H ∧ va_S (AA ad) s.heap H locs ∧ lv_has ls 16 [(14, .int (nI k)), (13, .int (nI (1 + (vn % 60)))), (12, .int (0 : Int32)), (11, .int (nI (vn % 24))), (10, .int (nI wy)), (9, .int (nI vn)), (0, .ref (ad 0)), (1, .ref (ad 83)), (2, .ref (ad 84)), (3, .ref (ad 85)), (4, .ref (ad 86)), (5, .ref (ad 87)), (6, .ref (ad 88)), (7, .ref (ad 89)), (8, .int p9)]) 24 ⟨0, (sR R 83 0 ((R 83 0) + (nI (1 + (vn % 60))))), by omega, by unfold xL_acts; rw [if_neg c_29, if_neg c_76, if_pos c_116, if_pos c_337, if_pos c_407, if_pos c_735]; unfold cutL_acts_859; rw [if_pos c_867, if_pos c_889], hP, hS, lv_sub hl [0, 1, 2, 3, 4, 5, 6, 7, 8, 9, 10, 11, 12, 13, 14] rfl⟩ ?_ ?_
                          · intro H locs ls hz
                            obtain ⟨k, R1, hkn, hsp, hP, hS, hl⟩ := hz
                            refine lv_iload hx hb dL_acts_920 (lv_at hl 0 rfl) ?_
                            refine lv_bipush (v := 24) hx hb dL_acts_922 (by decide) ?_
                            refine lv_icmp_ge (tgt := 947) hx hb dL_acts_924 (by decide) (fun c_924 => ?_) (fun c_924 => ?_)
                            · refine lv_aload_n hx hb dL_acts_947 rfl (lv_at hl 6 rfl) ?_
                              refine lv_iload hx hb dL_acts_948 (lv_at hl 1 rfl) ?_
                              refine q_callI (va_runV (As := [.int (nI (1 + (vn % 60)))]) (rest := []) ⟨hx, hb, hml, hown, hts⟩ (mX1_pass l D cI cS ad hI R1 F (nI (1 + (vn % 60))) o q ho hq hF0 hF1) (cwV 1 hts gL_acts_X1_pass rfl rfl rfl (by decide +kernel) ⟨Nat.le_of_ble_eq_true rfl, Nat.le_of_ble_eq_true rfl⟩) (PW_preV (i := 0) (by decide) CC_0 rfl rfl hK hP) rfl rfl hl.1 rfl (lv_room (Nat.le_of_ble_eq_true rfl)) dL_acts_950 ⟨Nat.zero_le _, Nat.zero_le _⟩) hS (fun H locs hP hS => ?_)
                              refine lv_aload_n hx hb dL_acts_953 rfl (lv_at hl 7 rfl) ?_
                              refine lv_iconst (v := 0) hx hb dL_acts_954 (by decide) ?_
                              refine q_ildN hx hb hK hP 83 6 (ar_83) 0 dL_acts_955 rfl (by omega) (by decide) ?_
                              refine lv_icmp_ne (tgt := 963) hx hb dL_acts_956 (by decide) (fun c_956 => ?_) (fun c_956 => ?_)
                              · refine lv_iconst (v := 0) hx hb dL_acts_963 (by decide) ?_
                                have hX : (xL_acts R F p9 vn wy kw o q) = ((0 : Int32), ((xX1_pass R1 F (nI (1 + (vn % 60))) o q).2.1), ((xX1_pass R1 F (nI (1 + (vn % 60))) o q).2.2)) := by rw [← hsp, hL_acts_920b_z, if_neg c_956]
                                exact W.zret (v := (0 : Int32)) hx hb hr rfl (fun t ht hW => ⟨by rw [hX], by rw [hX, ht]; with_reducible exact hP, hS.F ht⟩) hS.2.2 dL_acts_964
                              · refine lv_iconst (v := 1) hx hb dL_acts_959 (by decide) ?_
                                refine lv_goto (tgt := 964) hx hb dL_acts_960 (by decide) ?_
                                have hX : (xL_acts R F p9 vn wy kw o q) = ((1 : Int32), ((xX1_pass R1 F (nI (1 + (vn % 60))) o q).2.1), ((xX1_pass R1 F (nI (1 + (vn % 60))) o q).2.2)) := by rw [← hsp, hL_acts_920b_z, if_pos c_956]
                                exact W.zret (v := (1 : Int32)) hx hb hr rfl (fun t ht hW => ⟨by rw [hX], by rw [hX, ht]; with_reducible exact hP, hS.F ht⟩) hS.2.2 dL_acts_964
                            · exact absurd (nI_le (a := 24) (b := k) (by omega) (by omega)) c_924
                          · intro n ih H locs ls hz
                            obtain ⟨k, R1, hkn, hsp, hP, hS, hl⟩ := hz
                            refine lv_iload hx hb dL_acts_920 (lv_at hl 0 rfl) ?_
                            refine lv_bipush (v := 24) hx hb dL_acts_922 (by decide) ?_
                            refine lv_icmp_ge (tgt := 947) hx hb dL_acts_924 (by decide) (fun c_924 => ?_) (fun c_924 => ?_)
                            · exact absurd c_924 (nI_ge (a := k) (b := 24) (by omega) (by omega))
                            · refine lv_aload_n hx hb dL_acts_927 rfl (lv_at hl 8 rfl) ?_
                              refine lv_iload hx hb dL_acts_928 (lv_at hl 0 rfl) ?_
                              refine lv_dup2_11 hx hb dL_acts_930 rfl rfl ?_
                              refine q_ildN hx hb hK hP 84 24 (ar_84) k dL_acts_931 rfl (by omega) (by decide) ?_
                              refine lv_aload_n hx hb dL_acts_932 rfl (lv_at hl 9 rfl) ?_
                              refine lv_iload hx hb dL_acts_933 (lv_at hl 0 rfl) ?_
                              refine q_ildN hx hb hK hP 85 24 (ar_85) k dL_acts_935 rfl (by omega) (by decide) ?_
                              refine lv_iload hx hb dL_acts_936 (lv_at hl 1 rfl) ?_
                              refine lv_imul hx hb dL_acts_938 ?_
                              refine lv_iadd hx hb dL_acts_939 ?_
                              refine q_istN hx hb hK hI hP hS 84 24 (ar_84) k dL_acts_940 rfl (by omega) (by decide) (fun H locs hP hS => ?_)
                              have hP : WP D cI cS ad (sR R1 84 k ((R1 84 k) + ((R1 85 k) * (nI (1 + (vn % 60)))))) F H := hP
                              refine lv_iinc (v := (nI (k + 1))) (lv' := [(14, .int (nI (k + 1))), (13, .int (nI (1 + (vn % 60)))), (12, .int (0 : Int32)), (11, .int (nI (vn % 24))), (10, .int (nI wy)), (9, .int (nI vn)), (0, .ref (ad 0)), (1, .ref (ad 83)), (2, .ref (ad 84)), (3, .ref (ad 85)), (4, .ref (ad 86)), (5, .ref (ad 87)), (6, .ref (ad 88)), (7, .ref (ad 89)), (8, .int p9)]) hx hb dL_acts_941 hl (k := 0) rfl (nI_1 k) (by decide) rfl (fun ls hl => ?_)
                              refine lv_goto (tgt := 920) hx hb dL_acts_944 (by decide) ?_
                              exact ih _ _ _ ⟨(k + 1), (sR R1 84 k ((R1 84 k) + ((R1 85 k) * (nI (1 + (vn % 60)))))), by omega, by rw [← hsp, hL_acts_920b_s], hP, hS, lv_sub hl [0, 1, 2, 3, 4, 5, 6, 7, 8, 9, 10, 11, 12, 13, 14] rfl⟩
                        · refine lv_aload_n hx hb dL_acts_892 rfl (lv_at hl 5 rfl) ?_
                          refine lv_iload hx hb dL_acts_893 (lv_at hl 0 rfl) ?_
                          refine q_callI (va_runV (As := [.int (nI (1 + (vn % 60)))]) (rest := []) ⟨hx, hb, hml, hown, hts⟩ (mX1_pass l D cI cS ad hI R F (nI (1 + (vn % 60))) o q ho hq hF0 hF1) (cwV 1 hts gL_acts_X1_pass rfl rfl rfl (by decide +kernel) ⟨Nat.le_of_ble_eq_true rfl, Nat.le_of_ble_eq_true rfl⟩) (PW_preV (i := 0) (by decide) CC_0 rfl rfl hK hP) rfl rfl hl.1 rfl (lv_room (Nat.le_of_ble_eq_true rfl)) dL_acts_895 ⟨Nat.zero_le _, Nat.zero_le _⟩) hS (fun H locs hP hS => ?_)
                          refine lv_ldc (v := -100002) hx hb hown lk33 dL_acts_898 ?_
                          refine lv_icmp_ne (tgt := 907) hx hb dL_acts_900 (by decide) (fun c_900 => ?_) (fun c_900 => ?_)
                          · refine lv_iconst (v := 0) hx hb dL_acts_907 (by decide) ?_
                            have hX : (xL_acts R F p9 vn wy kw o q) = ((0 : Int32), ((xX1_pass R F (nI (1 + (vn % 60))) o q).2.1), ((xX1_pass R F (nI (1 + (vn % 60))) o q).2.2)) := by unfold xL_acts; rw [if_neg c_29, if_neg c_76, if_pos c_116, if_pos c_337, if_pos c_407, if_pos c_735]; unfold cutL_acts_859; rw [if_pos c_867, if_neg c_889, if_neg c_900]
                            exact W.zret (v := (0 : Int32)) hx hb hr rfl (fun t ht hW => ⟨by rw [hX], by rw [hX, ht]; with_reducible exact hP, hS.F ht⟩) hS.2.2 dL_acts_908
                          · refine lv_iconst (v := 1) hx hb dL_acts_903 (by decide) ?_
                            refine lv_goto (tgt := 908) hx hb dL_acts_904 (by decide) ?_
                            have hX : (xL_acts R F p9 vn wy kw o q) = ((1 : Int32), ((xX1_pass R F (nI (1 + (vn % 60))) o q).2.1), ((xX1_pass R F (nI (1 + (vn % 60))) o q).2.2)) := by unfold xL_acts; rw [if_neg c_29, if_neg c_76, if_pos c_116, if_pos c_337, if_pos c_407, if_pos c_735]; unfold cutL_acts_859; rw [if_pos c_867, if_neg c_889, if_pos c_900]
                            exact W.zret (v := (1 : Int32)) hx hb hr rfl (fun t ht hW => ⟨by rw [hX], by rw [hX, ht]; with_reducible exact hP, hS.F ht⟩) hS.2.2 dL_acts_908
                    · have n_735 : (wy) < (23) := Nat.lt_of_not_le (fun q => c_735 ((nI_leI (a := 23) (b := wy) (by omega) (by omega)).mpr q))
                      refine lv_iconst (v := 1) hx hb dL_acts_738 (by decide) ?_
                      refine lv_istore (lv' := [(13, .int (1 : Int32)), (12, .int (0 : Int32)), (11, .int (nI (vn % 24))), (10, .int (nI wy)), (9, .int (nI vn)), (0, .ref (ad 0)), (1, .ref (ad 83)), (2, .ref (ad 84)), (3, .ref (ad 85)), (4, .ref (ad 86)), (5, .ref (ad 87)), (6, .ref (ad 88)), (7, .ref (ad 89)), (8, .int p9)]) hx hb dL_acts_739 hl (by decide) rfl (fun ls hl => ?_)
                      refine lv_iconst (v := 0) hx hb dL_acts_741 (by decide) ?_
                      refine lv_istore (lv' := [(14, .int (0 : Int32)), (13, .int (1 : Int32)), (12, .int (0 : Int32)), (11, .int (nI (vn % 24))), (10, .int (nI wy)), (9, .int (nI vn)), (0, .ref (ad 0)), (1, .ref (ad 83)), (2, .ref (ad 84)), (3, .ref (ad 85)), (4, .ref (ad 86)), (5, .ref (ad 87)), (6, .ref (ad 88)), (7, .ref (ad 89)), (8, .int p9)]) hx hb dL_acts_742 hl (by decide) rfl (fun ls hl => ?_)
                      refine q_loop (fun nn H locs ls => ∃ (k : Nat) (x13 : Int32), k + nn = kw ∧ hL_acts_744 R F p9 vn wy kw o q nn k x13 = (xL_acts R F p9 vn wy kw o q) ∧ WP D cI cS ad R F H ∧ va_S (AA ad) s.heap H locs ∧ lv_has ls 16 [(14, .int (nI k)), (13, .int x13), (12, .int (0 : Int32)), (11, .int (nI (vn % 24))), (10, .int (nI wy)), (9, .int (nI vn)), (0, .ref (ad 0)), (1, .ref (ad 83)), (2, .ref (ad 84)), (3, .ref (ad 85)), (4, .ref (ad 86)), (5, .ref (ad 87)), (6, .ref (ad 88)), (7, .ref (ad 89)), (8, .int p9)]) kw ⟨0, (1 : Int32), by omega, by unfold xL_acts; rw [if_neg c_29, if_neg c_76, if_pos c_116, if_pos c_337, if_pos c_407, if_neg c_735]; unfold cutL_acts_738; rfl, hP, hS, lv_sub hl [0, 1, 2, 3, 4, 5, 6, 7, 8, 9, 10, 11, 12, 13, 14] rfl⟩ ?_ ?_
                      · intro H locs ls hz
                        obtain ⟨k, x13, hkn, hsp, hP, hS, hl⟩ := hz
                        refine lv_iload hx hb dL_acts_744 (lv_at hl 0 rfl) ?_
                        refine lv_aload_n hx hb dL_acts_746 rfl (lv_at hl 7 rfl) ?_
                        refine lv_iconst (v := 1) hx hb dL_acts_747 (by decide) ?_
                        refine q_ildN hx hb hK hP 83 6 (ar_83) 1 dL_acts_748 rfl (by omega) (by decide) ?_
                        refine q_top (y := (nI kw)) hW ?_
                        refine lv_icmp_ge (tgt := 801) hx hb dL_acts_749 (by decide) (fun c_749 => ?_) (fun c_749 => ?_)
                        · refine lv_iload hx hb dL_acts_801 (lv_at hl 1 rfl) ?_
                          refine lv_if_ne (tgt := 823) hx hb dL_acts_803 (by decide) (fun c_803 => ?_) (fun c_803 => ?_)
                          · refine lv_aload hx hb dL_acts_823 (lv_at hl 10 rfl) ?_
                            refine lv_iload hx hb dL_acts_825 (lv_at hl 3 rfl) ?_
                            refine lv_aload_n hx hb dL_acts_827 rfl (lv_at hl 8 rfl) ?_
                            refine lv_iload hx hb dL_acts_828 (lv_at hl 3 rfl) ?_
                            refine q_ildN hx hb hK hP 84 24 (ar_84) (vn % 24) dL_acts_830 rfl (by omega) (by decide) ?_
                            refine q_istN hx hb hK hI hP hS 86 24 (ar_86) (vn % 24) dL_acts_831 rfl (by omega) (by decide) (fun H locs hP hS => ?_)
                            have hP : WP D cI cS ad (sR R 86 (vn % 24) (R 84 (vn % 24))) F H := hP
                            refine lv_aload hx hb dL_acts_832 (lv_at hl 11 rfl) ?_
                            refine lv_iload hx hb dL_acts_834 (lv_at hl 3 rfl) ?_
                            refine lv_aload_n hx hb dL_acts_836 rfl (lv_at hl 7 rfl) ?_
                            refine lv_iconst (v := 0) hx hb dL_acts_837 (by decide) ?_
                            refine q_ildN hx hb hK hP 83 6 (ar_83) 0 dL_acts_838 rfl (by omega) (by decide) ?_
                            refine q_top (y := (R 83 0)) (congrFun (sR_ne (by decide) _ _) _) ?_
                            refine q_istN hx hb hK hI hP hS 87 24 (ar_87) (vn % 24) dL_acts_839 rfl (by omega) (by decide) (fun H locs hP hS => ?_)
                            have hP : WP D cI cS ad (sR (sR R 86 (vn % 24) (R 84 (vn % 24))) 87 (vn % 24) (R 83 0)) F H := hP
                            refine lv_aload_n hx hb dL_acts_840 rfl (lv_at hl 6 rfl) ?_
                            refine lv_iload hx hb dL_acts_841 (lv_at hl 3 rfl) ?_
                            refine q_callI (va_runV (As := [.int (nI (vn % 24))]) (rest := []) ⟨hx, hb, hml, hown, hts⟩ (mX1_tare l D cI cS ad hI (sR (sR R 86 (vn % 24) (R 84 (vn % 24))) 87 (vn % 24) (R 83 0)) F (nI (vn % 24)) o q ho hq hF0 hF1) (cwV 1 hts gL_acts_X1_tare rfl rfl rfl (by decide +kernel) ⟨Nat.le_of_ble_eq_true rfl, Nat.le_of_ble_eq_true rfl⟩) (PW_preV (i := 0) (by decide) CC_0 rfl rfl hK hP) rfl rfl hl.1 rfl (lv_room (Nat.le_of_ble_eq_true rfl)) dL_acts_843 ⟨Nat.zero_le _, Nat.zero_le _⟩) hS (fun H locs hP hS => ?_)
                            refine lv_aload_n hx hb dL_acts_846 rfl (lv_at hl 8 rfl) ?_
                            refine lv_iload hx hb dL_acts_847 (lv_at hl 3 rfl) ?_
                            refine q_ildN hx hb hK hP 84 24 (ar_84) (vn % 24) dL_acts_849 rfl (by omega) (by decide) ?_
                            refine lv_icmp_ne (tgt := 857) hx hb dL_acts_850 (by decide) (fun c_850 => ?_) (fun c_850 => ?_)
                            · refine lv_iconst (v := 0) hx hb dL_acts_857 (by decide) ?_
                              have hX : (xL_acts R F p9 vn wy kw o q) = ((0 : Int32), ((xX1_tare (sR (sR R 86 (vn % 24) (R 84 (vn % 24))) 87 (vn % 24) (R 83 0)) F (nI (vn % 24)) o q).2.1), ((xX1_tare (sR (sR R 86 (vn % 24) (R 84 (vn % 24))) 87 (vn % 24) (R 83 0)) F (nI (vn % 24)) o q).2.2)) := by rw [← hsp, hL_acts_744_z, if_neg c_803, if_neg c_850]
                              exact W.zret (v := (0 : Int32)) hx hb hr rfl (fun t ht hW => ⟨by rw [hX], by rw [hX, ht]; with_reducible exact hP, hS.F ht⟩) hS.2.2 dL_acts_858
                            · refine lv_iconst (v := 1) hx hb dL_acts_853 (by decide) ?_
                              refine lv_goto (tgt := 858) hx hb dL_acts_854 (by decide) ?_
                              have hX : (xL_acts R F p9 vn wy kw o q) = ((1 : Int32), ((xX1_tare (sR (sR R 86 (vn % 24) (R 84 (vn % 24))) 87 (vn % 24) (R 83 0)) F (nI (vn % 24)) o q).2.1), ((xX1_tare (sR (sR R 86 (vn % 24) (R 84 (vn % 24))) 87 (vn % 24) (R 83 0)) F (nI (vn % 24)) o q).2.2)) := by rw [← hsp, hL_acts_744_z, if_neg c_803, if_pos c_850]
                              exact W.zret (v := (1 : Int32)) hx hb hr rfl (fun t ht hW => ⟨by rw [hX], by rw [hX, ht]; with_reducible exact hP, hS.F ht⟩) hS.2.2 dL_acts_858
                          · refine lv_aload_n hx hb dL_acts_806 rfl (lv_at hl 6 rfl) ?_
                            refine lv_iload hx hb dL_acts_807 (lv_at hl 3 rfl) ?_
                            refine q_callI (va_runV (As := [.int (nI (vn % 24))]) (rest := []) ⟨hx, hb, hml, hown, hts⟩ (mX1_tare l D cI cS ad hI R F (nI (vn % 24)) o q ho hq hF0 hF1) (cwV 1 hts gL_acts_X1_tare rfl rfl rfl (by decide +kernel) ⟨Nat.le_of_ble_eq_true rfl, Nat.le_of_ble_eq_true rfl⟩) (PW_preV (i := 0) (by decide) CC_0 rfl rfl hK hP) rfl rfl hl.1 rfl (lv_room (Nat.le_of_ble_eq_true rfl)) dL_acts_809 ⟨Nat.zero_le _, Nat.zero_le _⟩) hS (fun H locs hP hS => ?_)
                            refine lv_ldc (v := -100002) hx hb hown lk33 dL_acts_812 ?_
                            refine lv_icmp_ne (tgt := 821) hx hb dL_acts_814 (by decide) (fun c_814 => ?_) (fun c_814 => ?_)
                            · refine lv_iconst (v := 0) hx hb dL_acts_821 (by decide) ?_
                              have hX : (xL_acts R F p9 vn wy kw o q) = ((0 : Int32), ((xX1_tare R F (nI (vn % 24)) o q).2.1), ((xX1_tare R F (nI (vn % 24)) o q).2.2)) := by rw [← hsp, hL_acts_744_z, if_pos c_803, if_neg c_814]
                              exact W.zret (v := (0 : Int32)) hx hb hr rfl (fun t ht hW => ⟨by rw [hX], by rw [hX, ht]; with_reducible exact hP, hS.F ht⟩) hS.2.2 dL_acts_822
                            · refine lv_iconst (v := 1) hx hb dL_acts_817 (by decide) ?_
                              refine lv_goto (tgt := 822) hx hb dL_acts_818 (by decide) ?_
                              have hX : (xL_acts R F p9 vn wy kw o q) = ((1 : Int32), ((xX1_tare R F (nI (vn % 24)) o q).2.1), ((xX1_tare R F (nI (vn % 24)) o q).2.2)) := by rw [← hsp, hL_acts_744_z, if_pos c_803, if_pos c_814]
                              exact W.zret (v := (1 : Int32)) hx hb hr rfl (fun t ht hW => ⟨by rw [hX], by rw [hX, ht]; with_reducible exact hP, hS.F ht⟩) hS.2.2 dL_acts_822
                        · exact absurd (nI_le (a := kw) (b := k) (by omega) (by omega)) c_749
                      · intro n ih H locs ls hz
                        obtain ⟨k, x13, hkn, hsp, hP, hS, hl⟩ := hz
                        refine lv_iload hx hb dL_acts_744 (lv_at hl 0 rfl) ?_
                        refine lv_aload_n hx hb dL_acts_746 rfl (lv_at hl 7 rfl) ?_
                        refine lv_iconst (v := 1) hx hb dL_acts_747 (by decide) ?_
                        refine q_ildN hx hb hK hP 83 6 (ar_83) 1 dL_acts_748 rfl (by omega) (by decide) ?_
                        refine q_top (y := (nI kw)) hW ?_
                        refine lv_icmp_ge (tgt := 801) hx hb dL_acts_749 (by decide) (fun c_749 => ?_) (fun c_749 => ?_)
                        · exact absurd c_749 (nI_ge (a := k) (b := kw) (by omega) (by omega))
                        · refine lv_iload hx hb dL_acts_752 (lv_at hl 1 rfl) ?_
                          refine lv_if_eq (tgt := 792) hx hb dL_acts_754 (by decide) (fun c_754 => ?_) (fun c_754 => ?_)
                          · refine lv_iconst (v := 0) hx hb dL_acts_792 (by decide) ?_
                            refine lv_istore (lv' := [(13, .int (0 : Int32)), (14, .int (nI k)), (12, .int (0 : Int32)), (11, .int (nI (vn % 24))), (10, .int (nI wy)), (9, .int (nI vn)), (0, .ref (ad 0)), (1, .ref (ad 83)), (2, .ref (ad 84)), (3, .ref (ad 85)), (4, .ref (ad 86)), (5, .ref (ad 87)), (6, .ref (ad 88)), (7, .ref (ad 89)), (8, .int p9)]) hx hb dL_acts_793 hl (by decide) rfl (fun ls hl => ?_)
                            refine lv_iinc (v := (nI (k + 1))) (lv' := [(14, .int (nI (k + 1))), (13, .int (0 : Int32)), (12, .int (0 : Int32)), (11, .int (nI (vn % 24))), (10, .int (nI wy)), (9, .int (nI vn)), (0, .ref (ad 0)), (1, .ref (ad 83)), (2, .ref (ad 84)), (3, .ref (ad 85)), (4, .ref (ad 86)), (5, .ref (ad 87)), (6, .ref (ad 88)), (7, .ref (ad 89)), (8, .int p9)]) hx hb dL_acts_795 hl (k := 1) rfl (nI_1 k) (by decide) rfl (fun ls hl => ?_)
                            refine lv_goto (tgt := 744) hx hb dL_acts_798 (by decide) ?_
                            exact ih _ _ _ ⟨(k + 1), (0 : Int32), by omega, by rw [← hsp, hL_acts_744_s, if_pos c_754], hP, hS, lv_sub hl [0, 1, 2, 3, 4, 5, 6, 7, 8, 9, 10, 11, 12, 13, 14] rfl⟩
                          · refine lv_aload hx hb dL_acts_757 (lv_at hl 12 rfl) ?_
                            refine lv_iconst (v := 5) hx hb dL_acts_759 (by decide) ?_
                            refine lv_iload hx hb dL_acts_760 (lv_at hl 0 rfl) ?_
                            refine lv_imul hx hb dL_acts_762 ?_
                            refine q_top (y := (nI (5 * k))) (pk_mul 5 k) ?_
                            refine lv_iconst (v := 1) hx hb dL_acts_763 (by decide) ?_
                            refine lv_iadd hx hb dL_acts_764 ?_
                            refine q_top (y := (nI ((5 * k) + 1))) (nI_add (5 * k) 1) ?_
                            refine q_ildN hx hb hK hP 88 40 (ar_88) ((5 * k) + 1) dL_acts_765 rfl (by omega) (by decide) ?_
                            refine lv_if_lt (tgt := 788) hx hb dL_acts_766 (by decide) (fun c_766 => ?_) (fun c_766 => ?_)
                            · refine lv_iconst (v := 1) hx hb dL_acts_788 (by decide) ?_
                              refine lv_goto (tgt := 793) hx hb dL_acts_789 (by decide) ?_
                              refine lv_istore (lv' := [(13, .int (1 : Int32)), (14, .int (nI k)), (12, .int (0 : Int32)), (11, .int (nI (vn % 24))), (10, .int (nI wy)), (9, .int (nI vn)), (0, .ref (ad 0)), (1, .ref (ad 83)), (2, .ref (ad 84)), (3, .ref (ad 85)), (4, .ref (ad 86)), (5, .ref (ad 87)), (6, .ref (ad 88)), (7, .ref (ad 89)), (8, .int p9)]) hx hb dL_acts_793 hl (by decide) rfl (fun ls hl => ?_)
                              refine lv_iinc (v := (nI (k + 1))) (lv' := [(14, .int (nI (k + 1))), (13, .int (1 : Int32)), (12, .int (0 : Int32)), (11, .int (nI (vn % 24))), (10, .int (nI wy)), (9, .int (nI vn)), (0, .ref (ad 0)), (1, .ref (ad 83)), (2, .ref (ad 84)), (3, .ref (ad 85)), (4, .ref (ad 86)), (5, .ref (ad 87)), (6, .ref (ad 88)), (7, .ref (ad 89)), (8, .int p9)]) hx hb dL_acts_795 hl (k := 1) rfl (nI_1 k) (by decide) rfl (fun ls hl => ?_)
                              refine lv_goto (tgt := 744) hx hb dL_acts_798 (by decide) ?_
                              exact ih _ _ _ ⟨(k + 1), (1 : Int32), by omega, by rw [← hsp, hL_acts_744_s, if_neg c_754, if_pos c_766], hP, hS, lv_sub hl [0, 1, 2, 3, 4, 5, 6, 7, 8, 9, 10, 11, 12, 13, 14] rfl⟩
                            · refine lv_bipush (v := 8) hx hb dL_acts_769 (by decide) ?_
                              refine lv_aload hx hb dL_acts_771 (lv_at hl 12 rfl) ?_
                              refine lv_iconst (v := 5) hx hb dL_acts_773 (by decide) ?_
                              refine lv_iload hx hb dL_acts_774 (lv_at hl 0 rfl) ?_
                              refine lv_imul hx hb dL_acts_776 ?_
                              refine q_top (y := (nI (5 * k))) (pk_mul 5 k) ?_
                              refine lv_iconst (v := 1) hx hb dL_acts_777 (by decide) ?_
                              refine lv_iadd hx hb dL_acts_778 ?_
                              refine q_top (y := (nI ((5 * k) + 1))) (nI_add (5 * k) 1) ?_
                              refine q_ildN hx hb hK hP 88 40 (ar_88) ((5 * k) + 1) dL_acts_779 rfl (by omega) (by decide) ?_
                              refine lv_iload hx hb dL_acts_780 (lv_at hl 3 rfl) ?_
                              refine q_callS (va_runS (As := [.int (8 : Int32), .int (R 88 ((5 * k) + 1)), .int (nI (vn % 24))]) (rest := []) ⟨hx, hb, hml, hown, hts⟩ (mL_share l D cI cS ad hI R F (8 : Int32) (R 88 ((5 * k) + 1)) (nI (vn % 24))) (va_cwS 3 hts gL_acts_L_share rfl rfl rfl (by decide +kernel) ⟨Nat.le_of_ble_eq_true rfl, Nat.le_of_ble_eq_true rfl⟩) (PW_preS hK hP) rfl rfl hl.1 rfl (lv_room (Nat.le_of_ble_eq_true rfl)) dL_acts_782 ⟨Nat.zero_le _, Nat.zero_le _⟩) ?_
                              refine lv_if_ne (tgt := 792) hx hb dL_acts_785 (by decide) (fun c_785 => ?_) (fun c_785 => ?_)
                              · refine lv_iconst (v := 0) hx hb dL_acts_792 (by decide) ?_
                                refine lv_istore (lv' := [(13, .int (0 : Int32)), (14, .int (nI k)), (12, .int (0 : Int32)), (11, .int (nI (vn % 24))), (10, .int (nI wy)), (9, .int (nI vn)), (0, .ref (ad 0)), (1, .ref (ad 83)), (2, .ref (ad 84)), (3, .ref (ad 85)), (4, .ref (ad 86)), (5, .ref (ad 87)), (6, .ref (ad 88)), (7, .ref (ad 89)), (8, .int p9)]) hx hb dL_acts_793 hl (by decide) rfl (fun ls hl => ?_)
                                refine lv_iinc (v := (nI (k + 1))) (lv' := [(14, .int (nI (k + 1))), (13, .int (0 : Int32)), (12, .int (0 : Int32)), (11, .int (nI (vn % 24))), (10, .int (nI wy)), (9, .int (nI vn)), (0, .ref (ad 0)), (1, .ref (ad 83)), (2, .ref (ad 84)), (3, .ref (ad 85)), (4, .ref (ad 86)), (5, .ref (ad 87)), (6, .ref (ad 88)), (7, .ref (ad 89)), (8, .int p9)]) hx hb dL_acts_795 hl (k := 1) rfl (nI_1 k) (by decide) rfl (fun ls hl => ?_)
                                refine lv_goto (tgt := 744) hx hb dL_acts_798 (by decide) ?_
                                exact ih _ _ _ ⟨(k + 1), (0 : Int32), by omega, by rw [← hsp, hL_acts_744_s, if_neg c_754, if_neg c_766, if_neg c_785], hP, hS, lv_sub hl [0, 1, 2, 3, 4, 5, 6, 7, 8, 9, 10, 11, 12, 13, 14] rfl⟩
                              · refine lv_iconst (v := 1) hx hb dL_acts_788 (by decide) ?_
                                refine lv_goto (tgt := 793) hx hb dL_acts_789 (by decide) ?_
                                refine lv_istore (lv' := [(13, .int (1 : Int32)), (14, .int (nI k)), (12, .int (0 : Int32)), (11, .int (nI (vn % 24))), (10, .int (nI wy)), (9, .int (nI vn)), (0, .ref (ad 0)), (1, .ref (ad 83)), (2, .ref (ad 84)), (3, .ref (ad 85)), (4, .ref (ad 86)), (5, .ref (ad 87)), (6, .ref (ad 88)), (7, .ref (ad 89)), (8, .int p9)]) hx hb dL_acts_793 hl (by decide) rfl (fun ls hl => ?_)
                                refine lv_iinc (v := (nI (k + 1))) (lv' := [(14, .int (nI (k + 1))), (13, .int (1 : Int32)), (12, .int (0 : Int32)), (11, .int (nI (vn % 24))), (10, .int (nI wy)), (9, .int (nI vn)), (0, .ref (ad 0)), (1, .ref (ad 83)), (2, .ref (ad 84)), (3, .ref (ad 85)), (4, .ref (ad 86)), (5, .ref (ad 87)), (6, .ref (ad 88)), (7, .ref (ad 89)), (8, .int p9)]) hx hb dL_acts_795 hl (k := 1) rfl (nI_1 k) (by decide) rfl (fun ls hl => ?_)
                                refine lv_goto (tgt := 744) hx hb dL_acts_798 (by decide) ?_
                                exact ih _ _ _ ⟨(k + 1), (1 : Int32), by omega, by rw [← hsp, hL_acts_744_s, if_neg c_754, if_neg c_766, if_pos c_785], hP, hS, lv_sub hl [0, 1, 2, 3, 4, 5, 6, 7, 8, 9, 10, 11, 12, 13, 14] rfl⟩
                  · exact absurd c_337 c_699
                · have n_570 : (wy) = (14) := (nI_eq (a := wy) (b := 14) (by omega) (by omega)).mp c_570
                  exfalso
                  omega
              · have n_538 : (wy) < (14) := Nat.lt_of_not_le (fun q => c_538 ((nI_leI (a := 14) (b := wy) (by omega) (by omega)).mpr q))
                exfalso
                omega
            · have n_429 : (wy) < (10) := Nat.lt_of_not_le (fun q => c_429 ((nI_leI (a := 10) (b := wy) (by omega) (by omega)).mpr q))
              exfalso
              omega
        · have n_337 : (wy) < (20) := Nat.lt_of_not_le (fun q => c_337 ((nI_leI (a := 20) (b := wy) (by omega) (by omega)).mpr q))
          refine lv_aload_n hx hb dL_acts_340 rfl (lv_at hl 4 rfl) ?_
          refine lv_iconst (v := 1) hx hb dL_acts_341 (by decide) ?_
          refine q_ildN hx hb hK hP 83 6 (ar_83) 1 dL_acts_342 rfl (by omega) (by decide) ?_
          refine q_top (y := (nI kw)) hW ?_
          refine lv_if_ne (tgt := 404) hx hb dL_acts_343 (by decide) (fun c_343 => ?_) (fun c_343 => ?_)
          · have n_343 : ¬ (kw) = (0) := fun q => c_343 ((nI_eq (a := kw) (b := 0) (by omega) (by omega)).mpr q)
            refine lv_aload_n hx hb dL_acts_404 rfl (lv_at hl 4 rfl) ?_
            refine lv_iconst (v := 1) hx hb dL_acts_405 (by decide) ?_
            refine q_ildN hx hb hK hP 83 6 (ar_83) 1 dL_acts_406 rfl (by omega) (by decide) ?_
            refine q_top (y := (nI kw)) hW ?_
            refine lv_if_ne (tgt := 414) hx hb dL_acts_407 (by decide) (fun c_407 => ?_) (fun c_407 => ?_)
            · refine lv_iload hx hb dL_acts_414 (lv_at hl 2 rfl) ?_
              refine lv_bipush (v := 24) hx hb dL_acts_416 (by decide) ?_
              refine lv_idiv hx hb dL_acts_418 (by decide) ?_
              refine q_top (y := (nI (vn / 24))) (pk_div (a := vn) (d := 24) (by omega) (by omega) (by omega)) ?_
              refine lv_aload_n hx hb dL_acts_419 rfl (lv_at hl 4 rfl) ?_
              refine lv_iconst (v := 1) hx hb dL_acts_420 (by decide) ?_
              refine q_ildN hx hb hK hP 83 6 (ar_83) 1 dL_acts_421 rfl (by omega) (by decide) ?_
              refine q_top (y := (nI kw)) hW ?_
              refine lv_irem hx hb dL_acts_422 (nI_ne0 (by omega) (by omega)) ?_
              refine q_top (y := (nI ((vn / 24) % kw))) (pk_rem (a := (vn / 24)) (d := kw) (by omega) (by omega) (by omega)) ?_
              refine lv_istore (lv' := [(12, .int (nI ((vn / 24) % kw))), (11, .int (nI (vn % 24))), (10, .int (nI wy)), (9, .int (nI vn)), (0, .ref (ad 0)), (1, .ref (ad 83)), (2, .ref (ad 84)), (3, .ref (ad 85)), (4, .ref (ad 86)), (5, .ref (ad 87)), (6, .ref (ad 88)), (7, .ref (ad 89)), (8, .int p9)]) hx hb dL_acts_423 hl (by decide) rfl (fun ls hl => ?_)
              have hk12 : vn / 24 % kw < kw := Nat.mod_lt _ (by omega)
              refine lv_iload hx hb dL_acts_425 (lv_at hl 2 rfl) ?_
              refine lv_bipush (v := 10) hx hb dL_acts_427 (by decide) ?_
              refine lv_icmp_ge (tgt := 534) hx hb dL_acts_429 (by decide) (fun c_429 => ?_) (fun c_429 => ?_)
              · have n_429 : (10) ≤ (wy) := (nI_leI (a := 10) (b := wy) (by omega) (by omega)).mp c_429
                refine lv_iload hx hb dL_acts_534 (lv_at hl 2 rfl) ?_
                refine lv_bipush (v := 14) hx hb dL_acts_536 (by decide) ?_
                refine lv_icmp_ge (tgt := 566) hx hb dL_acts_538 (by decide) (fun c_538 => ?_) (fun c_538 => ?_)
                · have n_538 : (14) ≤ (wy) := (nI_leI (a := 14) (b := wy) (by omega) (by omega)).mp c_538
                  refine lv_iload hx hb dL_acts_566 (lv_at hl 2 rfl) ?_
                  refine lv_bipush (v := 14) hx hb dL_acts_568 (by decide) ?_
                  refine lv_icmp_ne (tgt := 695) hx hb dL_acts_570 (by decide) (fun c_570 => ?_) (fun c_570 => ?_)
                  · have n_570 : ¬ (wy) = (14) := fun q => c_570 ((nI_eq (a := wy) (b := 14) (by omega) (by omega)).mpr q)
                    refine lv_iload hx hb dL_acts_695 (lv_at hl 2 rfl) ?_
                    refine lv_bipush (v := 20) hx hb dL_acts_697 (by decide) ?_
                    refine lv_icmp_ge (tgt := 731) hx hb dL_acts_699 (by decide) (fun c_699 => ?_) (fun c_699 => ?_)
                    · exact absurd c_699 c_337
                    · refine lv_aload_n hx hb dL_acts_702 rfl (lv_at hl 4 rfl) ?_
                      refine lv_aload_n hx hb dL_acts_703 rfl (lv_at hl 5 rfl) ?_
                      refine lv_aload_n hx hb dL_acts_704 rfl (lv_at hl 6 rfl) ?_
                      refine lv_aload hx hb dL_acts_705 (lv_at hl 8 rfl) ?_
                      refine lv_aload hx hb dL_acts_707 (lv_at hl 9 rfl) ?_
                      refine lv_aload hx hb dL_acts_709 (lv_at hl 10 rfl) ?_
                      refine lv_aload hx hb dL_acts_711 (lv_at hl 11 rfl) ?_
                      refine lv_iload hx hb dL_acts_713 (lv_at hl 0 rfl) ?_
                      refine lv_iload hx hb dL_acts_715 (lv_at hl 2 rfl) ?_
                      refine lv_bipush (v := 18) hx hb dL_acts_717 (by decide) ?_
                      refine lv_icmp_ge (tgt := 726) hx hb dL_acts_719 (by decide) (fun c_719 => ?_) (fun c_719 => ?_)
                      · have n_719 : (18) ≤ (wy) := (nI_leI (a := 18) (b := wy) (by omega) (by omega)).mp c_719
                        refine lv_iconst (v := 0) hx hb dL_acts_726 (by decide) ?_
                        refine q_callI (va_runS (As := [.ref (ad 0), .ref (ad 83), .ref (ad 84), .ref (ad 86), .ref (ad 87), .ref (ad 88), .ref (ad 89), .int (nI ((vn / 24) % kw)), .int (0 : Int32)]) (rest := []) ⟨hx, hb, hml, hown, hts⟩ (mL_clerk l D cI cS ad hI R F ((vn / 24) % kw) (0 : Int32) kw o q (by omega) hkw hW ho hq hF0 hF1) (va_cwS 9 hts gL_acts_L_clerk rfl rfl rfl (by decide +kernel) ⟨Nat.le_of_ble_eq_true rfl, Nat.le_of_ble_eq_true rfl⟩) (PW_preS hK hP) rfl rfl hl.1 rfl (lv_room (Nat.le_of_ble_eq_true rfl)) dL_acts_727 ⟨Nat.zero_le _, Nat.zero_le _⟩) hS (fun H locs hP hS => ?_)
                        have hX : (xL_acts R F p9 vn wy kw o q) = (((xL_clerk R F ((vn / 24) % kw) (0 : Int32) kw o q).1), ((xL_clerk R F ((vn / 24) % kw) (0 : Int32) kw o q).2.1), ((xL_clerk R F ((vn / 24) % kw) (0 : Int32) kw o q).2.2)) := by unfold xL_acts; rw [if_neg c_29, if_neg c_76, if_pos c_116, if_neg c_337, if_neg c_343, if_pos c_429, if_pos c_538, if_neg c_570]; unfold cutL_acts_702; rw [if_pos c_719]
                        exact W.zret (v := ((xL_clerk R F ((vn / 24) % kw) (0 : Int32) kw o q).1)) hx hb hr (hzc _ (by omega) _) (fun t ht hW => ⟨by rw [hX], by rw [hX, ht]; with_reducible exact hP, hS.F ht⟩) hS.2.2 dL_acts_730
                      · have n_719 : (wy) < (18) := Nat.lt_of_not_le (fun q => c_719 ((nI_leI (a := 18) (b := wy) (by omega) (by omega)).mpr q))
                        refine lv_iconst (v := 1) hx hb dL_acts_722 (by decide) ?_
                        refine lv_goto (tgt := 727) hx hb dL_acts_723 (by decide) ?_
                        refine q_callI (va_runS (As := [.ref (ad 0), .ref (ad 83), .ref (ad 84), .ref (ad 86), .ref (ad 87), .ref (ad 88), .ref (ad 89), .int (nI ((vn / 24) % kw)), .int (1 : Int32)]) (rest := []) ⟨hx, hb, hml, hown, hts⟩ (mL_clerk l D cI cS ad hI R F ((vn / 24) % kw) (1 : Int32) kw o q (by omega) hkw hW ho hq hF0 hF1) (va_cwS 9 hts gL_acts_L_clerk rfl rfl rfl (by decide +kernel) ⟨Nat.le_of_ble_eq_true rfl, Nat.le_of_ble_eq_true rfl⟩) (PW_preS hK hP) rfl rfl hl.1 rfl (lv_room (Nat.le_of_ble_eq_true rfl)) dL_acts_727 ⟨Nat.zero_le _, Nat.zero_le _⟩) hS (fun H locs hP hS => ?_)
                        have hX : (xL_acts R F p9 vn wy kw o q) = (((xL_clerk R F ((vn / 24) % kw) (1 : Int32) kw o q).1), ((xL_clerk R F ((vn / 24) % kw) (1 : Int32) kw o q).2.1), ((xL_clerk R F ((vn / 24) % kw) (1 : Int32) kw o q).2.2)) := by unfold xL_acts; rw [if_neg c_29, if_neg c_76, if_pos c_116, if_neg c_337, if_neg c_343, if_pos c_429, if_pos c_538, if_neg c_570]; unfold cutL_acts_702; rw [if_neg c_719]
                        exact W.zret (v := ((xL_clerk R F ((vn / 24) % kw) (1 : Int32) kw o q).1)) hx hb hr (hzc _ (by omega) _) (fun t ht hW => ⟨by rw [hX], by rw [hX, ht]; with_reducible exact hP, hS.F ht⟩) hS.2.2 dL_acts_730
                  · have n_570 : (wy) = (14) := (nI_eq (a := wy) (b := 14) (by omega) (by omega)).mp c_570
                    refine lv_aload hx hb dL_acts_573 (lv_at hl 10 rfl) ?_
                    refine lv_iconst (v := 5) hx hb dL_acts_575 (by decide) ?_
                    refine lv_iload hx hb dL_acts_576 (lv_at hl 0 rfl) ?_
                    refine lv_imul hx hb dL_acts_578 ?_
                    refine q_top (y := (nI (5 * ((vn / 24) % kw)))) (pk_mul 5 ((vn / 24) % kw)) ?_
                    refine lv_iconst (v := 1) hx hb dL_acts_579 (by decide) ?_
                    refine lv_iadd hx hb dL_acts_580 ?_
                    refine q_top (y := (nI ((5 * ((vn / 24) % kw)) + 1))) (nI_add (5 * ((vn / 24) % kw)) 1) ?_
                    refine q_ildN hx hb hK hP 88 40 (ar_88) ((5 * ((vn / 24) % kw)) + 1) dL_acts_581 rfl (by omega) (by decide) ?_
                    refine lv_if_ge (tgt := 602) hx hb dL_acts_582 (by decide) (fun c_582 => ?_) (fun c_582 => ?_)
                    · refine lv_aload_n hx hb dL_acts_602 rfl (lv_at hl 5 rfl) ?_
                      refine lv_aload hx hb dL_acts_603 (lv_at hl 10 rfl) ?_
                      refine lv_aload hx hb dL_acts_605 (lv_at hl 10 rfl) ?_
                      refine lv_iconst (v := 5) hx hb dL_acts_607 (by decide) ?_
                      refine lv_iload hx hb dL_acts_608 (lv_at hl 0 rfl) ?_
                      refine lv_imul hx hb dL_acts_610 ?_
                      refine q_top (y := (nI (5 * ((vn / 24) % kw)))) (pk_mul 5 ((vn / 24) % kw)) ?_
                      refine lv_iconst (v := 1) hx hb dL_acts_611 (by decide) ?_
                      refine lv_iadd hx hb dL_acts_612 ?_
                      refine q_top (y := (nI ((5 * ((vn / 24) % kw)) + 1))) (nI_add (5 * ((vn / 24) % kw)) 1) ?_
                      refine q_ildN hx hb hK hP 88 40 (ar_88) ((5 * ((vn / 24) % kw)) + 1) dL_acts_613 rfl (by omega) (by decide) ?_
                      refine lv_iconst (v := 3) hx hb dL_acts_614 (by decide) ?_
                      refine q_callS (va_runS (As := [.ref (ad 83), .ref (ad 88), .int (R 88 ((5 * ((vn / 24) % kw)) + 1)), .int (nI 3)]) (rest := []) ⟨hx, hb, hml, hown, hts⟩ (mL_who l D cI cS ad hI R F (R 88 ((5 * ((vn / 24) % kw)) + 1)) 3 kw (by omega) hkw hW) (va_cwS 4 hts gL_acts_L_who rfl rfl rfl (by decide +kernel) ⟨Nat.le_of_ble_eq_true rfl, Nat.le_of_ble_eq_true rfl⟩) (PW_preS hK hP) rfl rfl hl.1 rfl (lv_room (Nat.le_of_ble_eq_true rfl)) dL_acts_615 ⟨Nat.zero_le _, Nat.zero_le _⟩) ?_
                      refine lv_istore (lv' := [(13, .int (xL_who (R 83) (R 88) (R 88 ((5 * ((vn / 24) % kw)) + 1)) 3 kw)), (12, .int (nI ((vn / 24) % kw))), (11, .int (nI (vn % 24))), (10, .int (nI wy)), (9, .int (nI vn)), (0, .ref (ad 0)), (1, .ref (ad 83)), (2, .ref (ad 84)), (3, .ref (ad 85)), (4, .ref (ad 86)), (5, .ref (ad 87)), (6, .ref (ad 88)), (7, .ref (ad 89)), (8, .int p9)]) hx hb dL_acts_618 hl (by decide) rfl (fun ls hl => ?_)
                      obtain ⟨hT1, hT2⟩ := in_nat (hT _ hk12 (ge_nlt c_582)) (by decide)
                      refine lv_aload hx hb dL_acts_620 (lv_at hl 11 rfl) ?_
                      refine lv_iconst (v := 5) hx hb dL_acts_622 (by decide) ?_
                      refine lv_iload hx hb dL_acts_623 (lv_at hl 0 rfl) ?_
                      refine q_top (y := (nI ((xL_who (R 83) (R 88) (R 88 ((5 * ((vn / 24) % kw)) + 1)) 3 kw)).toNatClampNeg)) hT1 ?_
                      refine lv_imul hx hb dL_acts_625 ?_
                      refine q_top (y := (nI (5 * ((xL_who (R 83) (R 88) (R 88 ((5 * ((vn / 24) % kw)) + 1)) 3 kw)).toNatClampNeg))) (pk_mul 5 ((xL_who (R 83) (R 88) (R 88 ((5 * ((vn / 24) % kw)) + 1)) 3 kw)).toNatClampNeg) ?_
                      refine lv_iconst (v := 3) hx hb dL_acts_626 (by decide) ?_
                      refine lv_iadd hx hb dL_acts_627 ?_
                      refine q_top (y := (nI ((5 * ((xL_who (R 83) (R 88) (R 88 ((5 * ((vn / 24) % kw)) + 1)) 3 kw)).toNatClampNeg) + 3))) (nI_add (5 * ((xL_who (R 83) (R 88) (R 88 ((5 * ((vn / 24) % kw)) + 1)) 3 kw)).toNatClampNeg) 3) ?_
                      refine lv_aload hx hb dL_acts_628 (lv_at hl 11 rfl) ?_
                      refine lv_iconst (v := 5) hx hb dL_acts_630 (by decide) ?_
                      refine lv_iload hx hb dL_acts_631 (lv_at hl 1 rfl) ?_
                      refine lv_imul hx hb dL_acts_633 ?_
                      refine q_top (y := (nI (5 * ((vn / 24) % kw)))) (pk_mul 5 ((vn / 24) % kw)) ?_
                      refine lv_iconst (v := 3) hx hb dL_acts_634 (by decide) ?_
                      refine lv_iadd hx hb dL_acts_635 ?_
                      refine q_top (y := (nI ((5 * ((vn / 24) % kw)) + 3))) (nI_add (5 * ((vn / 24) % kw)) 3) ?_
                      refine q_ildN hx hb hK hP 88 40 (ar_88) ((5 * ((vn / 24) % kw)) + 3) dL_acts_636 rfl (by omega) (by decide) ?_
                      refine q_istN hx hb hK hI hP hS 88 40 (ar_88) ((5 * ((xL_who (R 83) (R 88) (R 88 ((5 * ((vn / 24) % kw)) + 1)) 3 kw)).toNatClampNeg) + 3) dL_acts_637 rfl (by omega) (by decide) (fun H locs hP hS => ?_)
                      have hP : WP D cI cS ad (sR R 88 ((5 * ((xL_who (R 83) (R 88) (R 88 ((5 * ((vn / 24) % kw)) + 1)) 3 kw)).toNatClampNeg) + 3) (R 88 ((5 * ((vn / 24) % kw)) + 3))) F H := hP
                      refine lv_aload hx hb dL_acts_638 (lv_at hl 11 rfl) ?_
                      refine lv_iconst (v := 5) hx hb dL_acts_640 (by decide) ?_
                      refine lv_iload hx hb dL_acts_641 (lv_at hl 1 rfl) ?_
                      refine lv_imul hx hb dL_acts_643 ?_
                      refine q_top (y := (nI (5 * ((vn / 24) % kw)))) (pk_mul 5 ((vn / 24) % kw)) ?_
                      refine lv_iconst (v := 1) hx hb dL_acts_644 (by decide) ?_
                      refine lv_iadd hx hb dL_acts_645 ?_
                      refine q_top (y := (nI ((5 * ((vn / 24) % kw)) + 1))) (nI_add (5 * ((vn / 24) % kw)) 1) ?_
                      refine lv_iconst (v := -1) hx hb dL_acts_646 (by decide) ?_
                      refine q_istN hx hb hK hI hP hS 88 40 (ar_88) ((5 * ((vn / 24) % kw)) + 1) dL_acts_647 rfl (by omega) (by decide) (fun H locs hP hS => ?_)
                      have hP : WP D cI cS ad (sR (sR R 88 ((5 * ((xL_who (R 83) (R 88) (R 88 ((5 * ((vn / 24) % kw)) + 1)) 3 kw)).toNatClampNeg) + 3) (R 88 ((5 * ((vn / 24) % kw)) + 3))) 88 ((5 * ((vn / 24) % kw)) + 1) (-1 : Int32)) F H := hP
                      refine lv_aload hx hb dL_acts_648 (lv_at hl 11 rfl) ?_
                      refine lv_iconst (v := 5) hx hb dL_acts_650 (by decide) ?_
                      refine lv_iload hx hb dL_acts_651 (lv_at hl 1 rfl) ?_
                      refine lv_imul hx hb dL_acts_653 ?_
                      refine q_top (y := (nI (5 * ((vn / 24) % kw)))) (pk_mul 5 ((vn / 24) % kw)) ?_
                      refine lv_iconst (v := 2) hx hb dL_acts_654 (by decide) ?_
                      refine lv_iadd hx hb dL_acts_655 ?_
                      refine q_top (y := (nI ((5 * ((vn / 24) % kw)) + 2))) (nI_add (5 * ((vn / 24) % kw)) 2) ?_
                      refine lv_iconst (v := -1) hx hb dL_acts_656 (by decide) ?_
                      refine q_istN hx hb hK hI hP hS 88 40 (ar_88) ((5 * ((vn / 24) % kw)) + 2) dL_acts_657 rfl (by omega) (by decide) (fun H locs hP hS => ?_)
                      have hP : WP D cI cS ad (sR (sR (sR R 88 ((5 * ((xL_who (R 83) (R 88) (R 88 ((5 * ((vn / 24) % kw)) + 1)) 3 kw)).toNatClampNeg) + 3) (R 88 ((5 * ((vn / 24) % kw)) + 3))) 88 ((5 * ((vn / 24) % kw)) + 1) (-1 : Int32)) 88 ((5 * ((vn / 24) % kw)) + 2) (-1 : Int32)) F H := hP
                      refine lv_aload hx hb dL_acts_658 (lv_at hl 11 rfl) ?_
                      refine lv_iconst (v := 5) hx hb dL_acts_660 (by decide) ?_
                      refine lv_iload hx hb dL_acts_661 (lv_at hl 1 rfl) ?_
                      refine lv_imul hx hb dL_acts_663 ?_
                      refine q_top (y := (nI (5 * ((vn / 24) % kw)))) (pk_mul 5 ((vn / 24) % kw)) ?_
                      refine lv_iconst (v := 3) hx hb dL_acts_664 (by decide) ?_
                      refine lv_iadd hx hb dL_acts_665 ?_
                      refine q_top (y := (nI ((5 * ((vn / 24) % kw)) + 3))) (nI_add (5 * ((vn / 24) % kw)) 3) ?_
                      refine lv_iconst (v := -1) hx hb dL_acts_666 (by decide) ?_
                      refine q_istN hx hb hK hI hP hS 88 40 (ar_88) ((5 * ((vn / 24) % kw)) + 3) dL_acts_667 rfl (by omega) (by decide) (fun H locs hP hS => ?_)
                      have hP : WP D cI cS ad (sR (sR (sR (sR R 88 ((5 * ((xL_who (R 83) (R 88) (R 88 ((5 * ((vn / 24) % kw)) + 1)) 3 kw)).toNatClampNeg) + 3) (R 88 ((5 * ((vn / 24) % kw)) + 3))) 88 ((5 * ((vn / 24) % kw)) + 1) (-1 : Int32)) 88 ((5 * ((vn / 24) % kw)) + 2) (-1 : Int32)) 88 ((5 * ((vn / 24) % kw)) + 3) (-1 : Int32)) F H := hP
                      refine lv_aload_n hx hb dL_acts_668 rfl (lv_at hl 5 rfl) ?_
                      refine lv_iload hx hb dL_acts_669 (lv_at hl 1 rfl) ?_
                      refine q_callI (va_runV (As := [.int (nI ((vn / 24) % kw))]) (rest := []) ⟨hx, hb, hml, hown, hts⟩ (mX1_leave l D cI cS ad hI (sR (sR (sR (sR R 88 ((5 * ((xL_who (R 83) (R 88) (R 88 ((5 * ((vn / 24) % kw)) + 1)) 3 kw)).toNatClampNeg) + 3) (R 88 ((5 * ((vn / 24) % kw)) + 3))) 88 ((5 * ((vn / 24) % kw)) + 1) (-1 : Int32)) 88 ((5 * ((vn / 24) % kw)) + 2) (-1 : Int32)) 88 ((5 * ((vn / 24) % kw)) + 3) (-1 : Int32)) F (nI ((vn / 24) % kw)) o q ho hq hF0 hF1) (cwV 1 hts gL_acts_X1_leave rfl rfl rfl (by decide +kernel) ⟨Nat.le_of_ble_eq_true rfl, Nat.le_of_ble_eq_true rfl⟩) (PW_preV (i := 0) (by decide) CC_0 rfl rfl hK hP) rfl rfl hl.1 rfl (lv_room (Nat.le_of_ble_eq_true rfl)) dL_acts_671 ⟨Nat.zero_le _, Nat.zero_le _⟩) hS (fun H locs hP hS => ?_)
                      refine lv_iload hx hb dL_acts_674 (lv_at hl 0 rfl) ?_
                      refine q_top (y := (nI ((xL_who (R 83) (R 88) (R 88 ((5 * ((vn / 24) % kw)) + 1)) 3 kw)).toNatClampNeg)) hT1 ?_
                      refine lv_iload hx hb dL_acts_676 (lv_at hl 1 rfl) ?_
                      refine lv_icmp_ne (tgt := 685) hx hb dL_acts_678 (by decide) (fun c_678 => ?_) (fun c_678 => ?_)
                      · have n_678 : ¬ (((xL_who (R 83) (R 88) (R 88 ((5 * ((vn / 24) % kw)) + 1)) 3 kw)).toNatClampNeg) = (((vn / 24) % kw)) := fun q => c_678 ((nI_eq (a := ((xL_who (R 83) (R 88) (R 88 ((5 * ((vn / 24) % kw)) + 1)) 3 kw)).toNatClampNeg) (b := ((vn / 24) % kw)) (by omega) (by omega)).mpr q)
                        refine lv_iconst (v := 0) hx hb dL_acts_685 (by decide) ?_
                        refine lv_icmp_ne (tgt := 693) hx hb dL_acts_686 (by decide) (fun c_686 => ?_) (fun c_686 => ?_)
                        · refine lv_iconst (v := 0) hx hb dL_acts_693 (by decide) ?_
                          have hX : (xL_acts R F p9 vn wy kw o q) = ((0 : Int32), ((xX1_leave (sR (sR (sR (sR R 88 ((5 * ((xL_who (R 83) (R 88) (R 88 ((5 * ((vn / 24) % kw)) + 1)) 3 kw)).toNatClampNeg) + 3) (R 88 ((5 * ((vn / 24) % kw)) + 3))) 88 ((5 * ((vn / 24) % kw)) + 1) (-1 : Int32)) 88 ((5 * ((vn / 24) % kw)) + 2) (-1 : Int32)) 88 ((5 * ((vn / 24) % kw)) + 3) (-1 : Int32)) F (nI ((vn / 24) % kw)) o q).2.1), ((xX1_leave (sR (sR (sR (sR R 88 ((5 * ((xL_who (R 83) (R 88) (R 88 ((5 * ((vn / 24) % kw)) + 1)) 3 kw)).toNatClampNeg) + 3) (R 88 ((5 * ((vn / 24) % kw)) + 3))) 88 ((5 * ((vn / 24) % kw)) + 1) (-1 : Int32)) 88 ((5 * ((vn / 24) % kw)) + 2) (-1 : Int32)) 88 ((5 * ((vn / 24) % kw)) + 3) (-1 : Int32)) F (nI ((vn / 24) % kw)) o q).2.2)) := by unfold xL_acts; rw [if_neg c_29, if_neg c_76, if_pos c_116, if_neg c_337, if_neg c_343, if_pos c_429, if_pos c_538, if_pos c_570]; unfold cutL_acts_573; rw [if_pos c_582, if_neg c_678, if_neg c_686]
                          exact W.zret (v := (0 : Int32)) hx hb hr rfl (fun t ht hW => ⟨by rw [hX], by rw [hX, ht]; with_reducible exact hP, hS.F ht⟩) hS.2.2 dL_acts_694
                        · refine lv_iconst (v := 1) hx hb dL_acts_689 (by decide) ?_
                          refine lv_goto (tgt := 694) hx hb dL_acts_690 (by decide) ?_
                          have hX : (xL_acts R F p9 vn wy kw o q) = ((1 : Int32), ((xX1_leave (sR (sR (sR (sR R 88 ((5 * ((xL_who (R 83) (R 88) (R 88 ((5 * ((vn / 24) % kw)) + 1)) 3 kw)).toNatClampNeg) + 3) (R 88 ((5 * ((vn / 24) % kw)) + 3))) 88 ((5 * ((vn / 24) % kw)) + 1) (-1 : Int32)) 88 ((5 * ((vn / 24) % kw)) + 2) (-1 : Int32)) 88 ((5 * ((vn / 24) % kw)) + 3) (-1 : Int32)) F (nI ((vn / 24) % kw)) o q).2.1), ((xX1_leave (sR (sR (sR (sR R 88 ((5 * ((xL_who (R 83) (R 88) (R 88 ((5 * ((vn / 24) % kw)) + 1)) 3 kw)).toNatClampNeg) + 3) (R 88 ((5 * ((vn / 24) % kw)) + 3))) 88 ((5 * ((vn / 24) % kw)) + 1) (-1 : Int32)) 88 ((5 * ((vn / 24) % kw)) + 2) (-1 : Int32)) 88 ((5 * ((vn / 24) % kw)) + 3) (-1 : Int32)) F (nI ((vn / 24) % kw)) o q).2.2)) := by unfold xL_acts; rw [if_neg c_29, if_neg c_76, if_pos c_116, if_neg c_337, if_neg c_343, if_pos c_429, if_pos c_538, if_pos c_570]; unfold cutL_acts_573; rw [if_pos c_582, if_neg c_678, if_pos c_686]
                          exact W.zret (v := (1 : Int32)) hx hb hr rfl (fun t ht hW => ⟨by rw [hX], by rw [hX, ht]; with_reducible exact hP, hS.F ht⟩) hS.2.2 dL_acts_694
                      · have n_678 : (((xL_who (R 83) (R 88) (R 88 ((5 * ((vn / 24) % kw)) + 1)) 3 kw)).toNatClampNeg) = (((vn / 24) % kw)) := (nI_eq (a := ((xL_who (R 83) (R 88) (R 88 ((5 * ((vn / 24) % kw)) + 1)) 3 kw)).toNatClampNeg) (b := ((vn / 24) % kw)) (by omega) (by omega)).mp c_678
                        refine lv_iconst (v := 1) hx hb dL_acts_681 (by decide) ?_
                        refine lv_goto (tgt := 686) hx hb dL_acts_682 (by decide) ?_
                        refine lv_icmp_ne (tgt := 693) hx hb dL_acts_686 (by decide) (fun c_686 => ?_) (fun c_686 => ?_)
                        · refine lv_iconst (v := 0) hx hb dL_acts_693 (by decide) ?_
                          have hX : (xL_acts R F p9 vn wy kw o q) = ((0 : Int32), ((xX1_leave (sR (sR (sR (sR R 88 ((5 * ((xL_who (R 83) (R 88) (R 88 ((5 * ((vn / 24) % kw)) + 1)) 3 kw)).toNatClampNeg) + 3) (R 88 ((5 * ((vn / 24) % kw)) + 3))) 88 ((5 * ((vn / 24) % kw)) + 1) (-1 : Int32)) 88 ((5 * ((vn / 24) % kw)) + 2) (-1 : Int32)) 88 ((5 * ((vn / 24) % kw)) + 3) (-1 : Int32)) F (nI ((vn / 24) % kw)) o q).2.1), ((xX1_leave (sR (sR (sR (sR R 88 ((5 * ((xL_who (R 83) (R 88) (R 88 ((5 * ((vn / 24) % kw)) + 1)) 3 kw)).toNatClampNeg) + 3) (R 88 ((5 * ((vn / 24) % kw)) + 3))) 88 ((5 * ((vn / 24) % kw)) + 1) (-1 : Int32)) 88 ((5 * ((vn / 24) % kw)) + 2) (-1 : Int32)) 88 ((5 * ((vn / 24) % kw)) + 3) (-1 : Int32)) F (nI ((vn / 24) % kw)) o q).2.2)) := by unfold xL_acts; rw [if_neg c_29, if_neg c_76, if_pos c_116, if_neg c_337, if_neg c_343, if_pos c_429, if_pos c_538, if_pos c_570]; unfold cutL_acts_573; rw [if_pos c_582, if_pos c_678, if_neg c_686]
                          exact W.zret (v := (0 : Int32)) hx hb hr rfl (fun t ht hW => ⟨by rw [hX], by rw [hX, ht]; with_reducible exact hP, hS.F ht⟩) hS.2.2 dL_acts_694
                        · refine lv_iconst (v := 1) hx hb dL_acts_689 (by decide) ?_
                          refine lv_goto (tgt := 694) hx hb dL_acts_690 (by decide) ?_
                          have hX : (xL_acts R F p9 vn wy kw o q) = ((1 : Int32), ((xX1_leave (sR (sR (sR (sR R 88 ((5 * ((xL_who (R 83) (R 88) (R 88 ((5 * ((vn / 24) % kw)) + 1)) 3 kw)).toNatClampNeg) + 3) (R 88 ((5 * ((vn / 24) % kw)) + 3))) 88 ((5 * ((vn / 24) % kw)) + 1) (-1 : Int32)) 88 ((5 * ((vn / 24) % kw)) + 2) (-1 : Int32)) 88 ((5 * ((vn / 24) % kw)) + 3) (-1 : Int32)) F (nI ((vn / 24) % kw)) o q).2.1), ((xX1_leave (sR (sR (sR (sR R 88 ((5 * ((xL_who (R 83) (R 88) (R 88 ((5 * ((vn / 24) % kw)) + 1)) 3 kw)).toNatClampNeg) + 3) (R 88 ((5 * ((vn / 24) % kw)) + 3))) 88 ((5 * ((vn / 24) % kw)) + 1) (-1 : Int32)) 88 ((5 * ((vn / 24) % kw)) + 2) (-1 : Int32)) 88 ((5 * ((vn / 24) % kw)) + 3) (-1 : Int32)) F (nI ((vn / 24) % kw)) o q).2.2)) := by unfold xL_acts; rw [if_neg c_29, if_neg c_76, if_pos c_116, if_neg c_337, if_neg c_343, if_pos c_429, if_pos c_538, if_pos c_570]; unfold cutL_acts_573; rw [if_pos c_582, if_pos c_678, if_pos c_686]
                          exact W.zret (v := (1 : Int32)) hx hb hr rfl (fun t ht hW => ⟨by rw [hX], by rw [hX, ht]; with_reducible exact hP, hS.F ht⟩) hS.2.2 dL_acts_694
                    · refine lv_aload_n hx hb dL_acts_585 rfl (lv_at hl 4 rfl) ?_
                      refine lv_iload hx hb dL_acts_586 (lv_at hl 0 rfl) ?_
                      refine q_callI (va_runV (As := [.int (nI ((vn / 24) % kw))]) (rest := []) ⟨hx, hb, hml, hown, hts⟩ (mX1_leave l D cI cS ad hI R F (nI ((vn / 24) % kw)) o q ho hq hF0 hF1) (cwV 1 hts gL_acts_X1_leave rfl rfl rfl (by decide +kernel) ⟨Nat.le_of_ble_eq_true rfl, Nat.le_of_ble_eq_true rfl⟩) (PW_preV (i := 0) (by decide) CC_0 rfl rfl hK hP) rfl rfl hl.1 rfl (lv_room (Nat.le_of_ble_eq_true rfl)) dL_acts_588 ⟨Nat.zero_le _, Nat.zero_le _⟩) hS (fun H locs hP hS => ?_)
                      refine lv_ldc (v := -100002) hx hb hown lk33 dL_acts_591 ?_
                      refine lv_icmp_ne (tgt := 600) hx hb dL_acts_593 (by decide) (fun c_593 => ?_) (fun c_593 => ?_)
                      · refine lv_iconst (v := 0) hx hb dL_acts_600 (by decide) ?_
                        have hX : (xL_acts R F p9 vn wy kw o q) = ((0 : Int32), ((xX1_leave R F (nI ((vn / 24) % kw)) o q).2.1), ((xX1_leave R F (nI ((vn / 24) % kw)) o q).2.2)) := by unfold xL_acts; rw [if_neg c_29, if_neg c_76, if_pos c_116, if_neg c_337, if_neg c_343, if_pos c_429, if_pos c_538, if_pos c_570]; unfold cutL_acts_573; rw [if_neg c_582, if_neg c_593]
                        exact W.zret (v := (0 : Int32)) hx hb hr rfl (fun t ht hW => ⟨by rw [hX], by rw [hX, ht]; with_reducible exact hP, hS.F ht⟩) hS.2.2 dL_acts_601
                      · refine lv_iconst (v := 1) hx hb dL_acts_596 (by decide) ?_
                        refine lv_goto (tgt := 601) hx hb dL_acts_597 (by decide) ?_
                        have hX : (xL_acts R F p9 vn wy kw o q) = ((1 : Int32), ((xX1_leave R F (nI ((vn / 24) % kw)) o q).2.1), ((xX1_leave R F (nI ((vn / 24) % kw)) o q).2.2)) := by unfold xL_acts; rw [if_neg c_29, if_neg c_76, if_pos c_116, if_neg c_337, if_neg c_343, if_pos c_429, if_pos c_538, if_pos c_570]; unfold cutL_acts_573; rw [if_neg c_582, if_pos c_593]
                        exact W.zret (v := (1 : Int32)) hx hb hr rfl (fun t ht hW => ⟨by rw [hX], by rw [hX, ht]; with_reducible exact hP, hS.F ht⟩) hS.2.2 dL_acts_601
                · have n_538 : (wy) < (14) := Nat.lt_of_not_le (fun q => c_538 ((nI_leI (a := 14) (b := wy) (by omega) (by omega)).mpr q))
                  refine lv_aload_n hx hb dL_acts_541 rfl (lv_at hl 4 rfl) ?_
                  refine lv_aload_n hx hb dL_acts_542 rfl (lv_at hl 5 rfl) ?_
                  refine lv_aload_n hx hb dL_acts_543 rfl (lv_at hl 6 rfl) ?_
                  refine lv_aload hx hb dL_acts_544 (lv_at hl 8 rfl) ?_
                  refine lv_aload hx hb dL_acts_546 (lv_at hl 10 rfl) ?_
                  refine lv_iload hx hb dL_acts_548 (lv_at hl 3 rfl) ?_
                  refine lv_iload hx hb dL_acts_550 (lv_at hl 2 rfl) ?_
                  refine lv_bipush (v := 12) hx hb dL_acts_552 (by decide) ?_
                  refine lv_icmp_ge (tgt := 561) hx hb dL_acts_554 (by decide) (fun c_554 => ?_) (fun c_554 => ?_)
                  · have n_554 : (12) ≤ (wy) := (nI_leI (a := 12) (b := wy) (by omega) (by omega)).mp c_554
                    refine lv_iconst (v := 0) hx hb dL_acts_561 (by decide) ?_
                    refine q_callI (va_runS (As := [.ref (ad 0), .ref (ad 83), .ref (ad 84), .ref (ad 86), .ref (ad 88), .int (nI vn), .int (0 : Int32)]) (rest := []) ⟨hx, hb, hml, hown, hts⟩ (mL_two l D cI cS ad hI R F vn (0 : Int32) kw o q (by omega) (by omega) hkw hW ho hq hF0 hF1) (va_cwS 7 hts gL_acts_L_two rfl rfl rfl (by decide +kernel) ⟨Nat.le_of_ble_eq_true rfl, Nat.le_of_ble_eq_true rfl⟩) (PW_preS hK hP) rfl rfl hl.1 rfl (lv_room (Nat.le_of_ble_eq_true rfl)) dL_acts_562 ⟨Nat.zero_le _, Nat.zero_le _⟩) hS (fun H locs hP hS => ?_)
                    have hX : (xL_acts R F p9 vn wy kw o q) = (((xL_two R F vn (0 : Int32) kw o q).1), ((xL_two R F vn (0 : Int32) kw o q).2.1), ((xL_two R F vn (0 : Int32) kw o q).2.2)) := by unfold xL_acts; rw [if_neg c_29, if_neg c_76, if_pos c_116, if_neg c_337, if_neg c_343, if_pos c_429, if_neg c_538]; unfold cutL_acts_541; rw [if_pos c_554]
                    exact W.zret (v := ((xL_two R F vn (0 : Int32) kw o q).1)) hx hb hr (hz2 (by omega) _) (fun t ht hW => ⟨by rw [hX], by rw [hX, ht]; with_reducible exact hP, hS.F ht⟩) hS.2.2 dL_acts_565
                  · have n_554 : (wy) < (12) := Nat.lt_of_not_le (fun q => c_554 ((nI_leI (a := 12) (b := wy) (by omega) (by omega)).mpr q))
                    refine lv_iconst (v := 1) hx hb dL_acts_557 (by decide) ?_
                    refine lv_goto (tgt := 562) hx hb dL_acts_558 (by decide) ?_
                    refine q_callI (va_runS (As := [.ref (ad 0), .ref (ad 83), .ref (ad 84), .ref (ad 86), .ref (ad 88), .int (nI vn), .int (1 : Int32)]) (rest := []) ⟨hx, hb, hml, hown, hts⟩ (mL_two l D cI cS ad hI R F vn (1 : Int32) kw o q (by omega) (by omega) hkw hW ho hq hF0 hF1) (va_cwS 7 hts gL_acts_L_two rfl rfl rfl (by decide +kernel) ⟨Nat.le_of_ble_eq_true rfl, Nat.le_of_ble_eq_true rfl⟩) (PW_preS hK hP) rfl rfl hl.1 rfl (lv_room (Nat.le_of_ble_eq_true rfl)) dL_acts_562 ⟨Nat.zero_le _, Nat.zero_le _⟩) hS (fun H locs hP hS => ?_)
                    have hX : (xL_acts R F p9 vn wy kw o q) = (((xL_two R F vn (1 : Int32) kw o q).1), ((xL_two R F vn (1 : Int32) kw o q).2.1), ((xL_two R F vn (1 : Int32) kw o q).2.2)) := by unfold xL_acts; rw [if_neg c_29, if_neg c_76, if_pos c_116, if_neg c_337, if_neg c_343, if_pos c_429, if_neg c_538]; unfold cutL_acts_541; rw [if_neg c_554]
                    exact W.zret (v := ((xL_two R F vn (1 : Int32) kw o q).1)) hx hb hr (hz2 (by omega) _) (fun t ht hW => ⟨by rw [hX], by rw [hX, ht]; with_reducible exact hP, hS.F ht⟩) hS.2.2 dL_acts_565
              · have n_429 : (wy) < (10) := Nat.lt_of_not_le (fun q => c_429 ((nI_leI (a := 10) (b := wy) (by omega) (by omega)).mpr q))
                refine lv_aload hx hb dL_acts_432 (lv_at hl 10 rfl) ?_
                refine lv_iconst (v := 5) hx hb dL_acts_434 (by decide) ?_
                refine lv_iload hx hb dL_acts_435 (lv_at hl 0 rfl) ?_
                refine lv_imul hx hb dL_acts_437 ?_
                refine q_top (y := (nI (5 * ((vn / 24) % kw)))) (pk_mul 5 ((vn / 24) % kw)) ?_
                refine lv_iconst (v := 1) hx hb dL_acts_438 (by decide) ?_
                refine lv_iadd hx hb dL_acts_439 ?_
                refine q_top (y := (nI ((5 * ((vn / 24) % kw)) + 1))) (nI_add (5 * ((vn / 24) % kw)) 1) ?_
                refine q_ildN hx hb hK hP 88 40 (ar_88) ((5 * ((vn / 24) % kw)) + 1) dL_acts_440 rfl (by omega) (by decide) ?_
                refine lv_if_lt (tgt := 456) hx hb dL_acts_441 (by decide) (fun c_441 => ?_) (fun c_441 => ?_)
                · refine lv_aload_n hx hb dL_acts_456 rfl (lv_at hl 4 rfl) ?_
                  refine lv_iload hx hb dL_acts_457 (lv_at hl 0 rfl) ?_
                  refine lv_iload hx hb dL_acts_459 (lv_at hl 1 rfl) ?_
                  refine q_callI (va_runV (As := [.int (nI ((vn / 24) % kw)), .int (nI (vn % 24))]) (rest := []) ⟨hx, hb, hml, hown, hts⟩ (mX1_walk l D cI cS ad hI R F (nI ((vn / 24) % kw)) (nI (vn % 24)) o q ho hq hF0 hF1) (cwV 2 hts gL_acts_X1_walk rfl rfl rfl (by decide +kernel) ⟨Nat.le_of_ble_eq_true rfl, Nat.le_of_ble_eq_true rfl⟩) (PW_preV (i := 0) (by decide) CC_0 rfl rfl hK hP) rfl rfl hl.1 rfl (lv_room (Nat.le_of_ble_eq_true rfl)) dL_acts_461 ⟨Nat.zero_le _, Nat.zero_le _⟩) hS (fun H locs hP hS => ?_)
                  refine lv_ldc (v := -100002) hx hb hown lk33 dL_acts_464 ?_
                  refine lv_icmp_ne (tgt := 473) hx hb dL_acts_466 (by decide) (fun c_466 => ?_) (fun c_466 => ?_)
                  · refine lv_iconst (v := 0) hx hb dL_acts_473 (by decide) ?_
                    have hX : (xL_acts R F p9 vn wy kw o q) = ((0 : Int32), ((xX1_walk R F (nI ((vn / 24) % kw)) (nI (vn % 24)) o q).2.1), ((xX1_walk R F (nI ((vn / 24) % kw)) (nI (vn % 24)) o q).2.2)) := by unfold xL_acts; rw [if_neg c_29, if_neg c_76, if_pos c_116, if_neg c_337, if_neg c_343, if_neg c_429]; unfold cutL_acts_432; rw [if_pos c_441, if_neg c_466]
                    exact W.zret (v := (0 : Int32)) hx hb hr rfl (fun t ht hW => ⟨by rw [hX], by rw [hX, ht]; with_reducible exact hP, hS.F ht⟩) hS.2.2 dL_acts_474
                  · refine lv_iconst (v := 1) hx hb dL_acts_469 (by decide) ?_
                    refine lv_goto (tgt := 474) hx hb dL_acts_470 (by decide) ?_
                    have hX : (xL_acts R F p9 vn wy kw o q) = ((1 : Int32), ((xX1_walk R F (nI ((vn / 24) % kw)) (nI (vn % 24)) o q).2.1), ((xX1_walk R F (nI ((vn / 24) % kw)) (nI (vn % 24)) o q).2.2)) := by unfold xL_acts; rw [if_neg c_29, if_neg c_76, if_pos c_116, if_neg c_337, if_neg c_343, if_neg c_429]; unfold cutL_acts_432; rw [if_pos c_441, if_pos c_466]
                    exact W.zret (v := (1 : Int32)) hx hb hr rfl (fun t ht hW => ⟨by rw [hX], by rw [hX, ht]; with_reducible exact hP, hS.F ht⟩) hS.2.2 dL_acts_474
                · refine lv_aload_n hx hb dL_acts_444 rfl (lv_at hl 5 rfl) ?_
                  refine lv_aload hx hb dL_acts_445 (lv_at hl 10 rfl) ?_
                  refine lv_iload hx hb dL_acts_447 (lv_at hl 1 rfl) ?_
                  refine lv_iconst (v := 1) hx hb dL_acts_449 (by decide) ?_
                  refine q_callS (va_runS (As := [.ref (ad 83), .ref (ad 88), .int (nI (vn % 24)), .int (nI 1)]) (rest := []) ⟨hx, hb, hml, hown, hts⟩ (mL_who l D cI cS ad hI R F (nI (vn % 24)) 1 kw (by omega) hkw hW) (va_cwS 4 hts gL_acts_L_who rfl rfl rfl (by decide +kernel) ⟨Nat.le_of_ble_eq_true rfl, Nat.le_of_ble_eq_true rfl⟩) (PW_preS hK hP) rfl rfl hl.1 rfl (lv_room (Nat.le_of_ble_eq_true rfl)) dL_acts_450 ⟨Nat.zero_le _, Nat.zero_le _⟩) ?_
                  refine lv_if_lt (tgt := 475) hx hb dL_acts_453 (by decide) (fun c_453 => ?_) (fun c_453 => ?_)
                  · refine lv_aload_n hx hb dL_acts_475 rfl (lv_at hl 5 rfl) ?_
                    refine lv_aload hx hb dL_acts_476 (lv_at hl 10 rfl) ?_
                    refine lv_aload hx hb dL_acts_478 (lv_at hl 10 rfl) ?_
                    refine lv_iconst (v := 5) hx hb dL_acts_480 (by decide) ?_
                    refine lv_iload hx hb dL_acts_481 (lv_at hl 0 rfl) ?_
                    refine lv_imul hx hb dL_acts_483 ?_
                    refine q_top (y := (nI (5 * ((vn / 24) % kw)))) (pk_mul 5 ((vn / 24) % kw)) ?_
                    refine lv_iconst (v := 1) hx hb dL_acts_484 (by decide) ?_
                    refine lv_iadd hx hb dL_acts_485 ?_
                    refine q_top (y := (nI ((5 * ((vn / 24) % kw)) + 1))) (nI_add (5 * ((vn / 24) % kw)) 1) ?_
                    refine q_ildN hx hb hK hP 88 40 (ar_88) ((5 * ((vn / 24) % kw)) + 1) dL_acts_486 rfl (by omega) (by decide) ?_
                    refine lv_iconst (v := 3) hx hb dL_acts_487 (by decide) ?_
                    refine q_callS (va_runS (As := [.ref (ad 83), .ref (ad 88), .int (R 88 ((5 * ((vn / 24) % kw)) + 1)), .int (nI 3)]) (rest := []) ⟨hx, hb, hml, hown, hts⟩ (mL_who l D cI cS ad hI R F (R 88 ((5 * ((vn / 24) % kw)) + 1)) 3 kw (by omega) hkw hW) (va_cwS 4 hts gL_acts_L_who rfl rfl rfl (by decide +kernel) ⟨Nat.le_of_ble_eq_true rfl, Nat.le_of_ble_eq_true rfl⟩) (PW_preS hK hP) rfl rfl hl.1 rfl (lv_room (Nat.le_of_ble_eq_true rfl)) dL_acts_488 ⟨Nat.zero_le _, Nat.zero_le _⟩) ?_
                    refine lv_istore (lv' := [(13, .int (xL_who (R 83) (R 88) (R 88 ((5 * ((vn / 24) % kw)) + 1)) 3 kw)), (12, .int (nI ((vn / 24) % kw))), (11, .int (nI (vn % 24))), (10, .int (nI wy)), (9, .int (nI vn)), (0, .ref (ad 0)), (1, .ref (ad 83)), (2, .ref (ad 84)), (3, .ref (ad 85)), (4, .ref (ad 86)), (5, .ref (ad 87)), (6, .ref (ad 88)), (7, .ref (ad 89)), (8, .int p9)]) hx hb dL_acts_491 hl (by decide) rfl (fun ls hl => ?_)
                    obtain ⟨hT1, hT2⟩ := in_nat (hT _ hk12 c_441) (by decide)
                    refine lv_aload hx hb dL_acts_493 (lv_at hl 11 rfl) ?_
                    refine lv_iconst (v := 5) hx hb dL_acts_495 (by decide) ?_
                    refine lv_iload hx hb dL_acts_496 (lv_at hl 1 rfl) ?_
                    refine lv_imul hx hb dL_acts_498 ?_
                    refine q_top (y := (nI (5 * ((vn / 24) % kw)))) (pk_mul 5 ((vn / 24) % kw)) ?_
                    refine lv_iconst (v := 1) hx hb dL_acts_499 (by decide) ?_
                    refine lv_iadd hx hb dL_acts_500 ?_
                    refine q_top (y := (nI ((5 * ((vn / 24) % kw)) + 1))) (nI_add (5 * ((vn / 24) % kw)) 1) ?_
                    refine lv_iload hx hb dL_acts_501 (lv_at hl 2 rfl) ?_
                    refine q_istN hx hb hK hI hP hS 88 40 (ar_88) ((5 * ((vn / 24) % kw)) + 1) dL_acts_503 rfl (by omega) (by decide) (fun H locs hP hS => ?_)
                    have hP : WP D cI cS ad (sR R 88 ((5 * ((vn / 24) % kw)) + 1) (nI (vn % 24))) F H := hP
                    refine lv_aload hx hb dL_acts_504 (lv_at hl 11 rfl) ?_
                    refine lv_iconst (v := 5) hx hb dL_acts_506 (by decide) ?_
                    refine lv_iload hx hb dL_acts_507 (lv_at hl 0 rfl) ?_
                    refine q_top (y := (nI ((xL_who (R 83) (R 88) (R 88 ((5 * ((vn / 24) % kw)) + 1)) 3 kw)).toNatClampNeg)) hT1 ?_
                    refine lv_imul hx hb dL_acts_509 ?_
                    refine q_top (y := (nI (5 * ((xL_who (R 83) (R 88) (R 88 ((5 * ((vn / 24) % kw)) + 1)) 3 kw)).toNatClampNeg))) (pk_mul 5 ((xL_who (R 83) (R 88) (R 88 ((5 * ((vn / 24) % kw)) + 1)) 3 kw)).toNatClampNeg) ?_
                    refine lv_iconst (v := 3) hx hb dL_acts_510 (by decide) ?_
                    refine lv_iadd hx hb dL_acts_511 ?_
                    refine q_top (y := (nI ((5 * ((xL_who (R 83) (R 88) (R 88 ((5 * ((vn / 24) % kw)) + 1)) 3 kw)).toNatClampNeg) + 3))) (nI_add (5 * ((xL_who (R 83) (R 88) (R 88 ((5 * ((vn / 24) % kw)) + 1)) 3 kw)).toNatClampNeg) 3) ?_
                    refine lv_iload hx hb dL_acts_512 (lv_at hl 2 rfl) ?_
                    refine q_istN hx hb hK hI hP hS 88 40 (ar_88) ((5 * ((xL_who (R 83) (R 88) (R 88 ((5 * ((vn / 24) % kw)) + 1)) 3 kw)).toNatClampNeg) + 3) dL_acts_514 rfl (by omega) (by decide) (fun H locs hP hS => ?_)
                    have hP : WP D cI cS ad (sR (sR R 88 ((5 * ((vn / 24) % kw)) + 1) (nI (vn % 24))) 88 ((5 * ((xL_who (R 83) (R 88) (R 88 ((5 * ((vn / 24) % kw)) + 1)) 3 kw)).toNatClampNeg) + 3) (nI (vn % 24))) F H := hP
                    refine lv_aload_n hx hb dL_acts_515 rfl (lv_at hl 5 rfl) ?_
                    refine lv_iload hx hb dL_acts_516 (lv_at hl 1 rfl) ?_
                    refine lv_iload hx hb dL_acts_518 (lv_at hl 2 rfl) ?_
                    refine q_callI (va_runV (As := [.int (nI ((vn / 24) % kw)), .int (nI (vn % 24))]) (rest := []) ⟨hx, hb, hml, hown, hts⟩ (mX1_walk l D cI cS ad hI (sR (sR R 88 ((5 * ((vn / 24) % kw)) + 1) (nI (vn % 24))) 88 ((5 * ((xL_who (R 83) (R 88) (R 88 ((5 * ((vn / 24) % kw)) + 1)) 3 kw)).toNatClampNeg) + 3) (nI (vn % 24))) F (nI ((vn / 24) % kw)) (nI (vn % 24)) o q ho hq hF0 hF1) (cwV 2 hts gL_acts_X1_walk rfl rfl rfl (by decide +kernel) ⟨Nat.le_of_ble_eq_true rfl, Nat.le_of_ble_eq_true rfl⟩) (PW_preV (i := 0) (by decide) CC_0 rfl rfl hK hP) rfl rfl hl.1 rfl (lv_room (Nat.le_of_ble_eq_true rfl)) dL_acts_520 ⟨Nat.zero_le _, Nat.zero_le _⟩) hS (fun H locs hP hS => ?_)
                    refine lv_iload hx hb dL_acts_523 (lv_at hl 0 rfl) ?_
                    refine q_top (y := (nI ((xL_who (R 83) (R 88) (R 88 ((5 * ((vn / 24) % kw)) + 1)) 3 kw)).toNatClampNeg)) hT1 ?_
                    refine lv_icmp_ne (tgt := 532) hx hb dL_acts_525 (by decide) (fun c_525 => ?_) (fun c_525 => ?_)
                    · refine lv_iconst (v := 0) hx hb dL_acts_532 (by decide) ?_
                      have hX : (xL_acts R F p9 vn wy kw o q) = ((0 : Int32), ((xX1_walk (sR (sR R 88 ((5 * ((vn / 24) % kw)) + 1) (nI (vn % 24))) 88 ((5 * ((xL_who (R 83) (R 88) (R 88 ((5 * ((vn / 24) % kw)) + 1)) 3 kw)).toNatClampNeg) + 3) (nI (vn % 24))) F (nI ((vn / 24) % kw)) (nI (vn % 24)) o q).2.1), ((xX1_walk (sR (sR R 88 ((5 * ((vn / 24) % kw)) + 1) (nI (vn % 24))) 88 ((5 * ((xL_who (R 83) (R 88) (R 88 ((5 * ((vn / 24) % kw)) + 1)) 3 kw)).toNatClampNeg) + 3) (nI (vn % 24))) F (nI ((vn / 24) % kw)) (nI (vn % 24)) o q).2.2)) := by unfold xL_acts; rw [if_neg c_29, if_neg c_76, if_pos c_116, if_neg c_337, if_neg c_343, if_neg c_429]; unfold cutL_acts_432; rw [if_neg c_441, if_pos c_453, if_neg c_525]
                      exact W.zret (v := (0 : Int32)) hx hb hr rfl (fun t ht hW => ⟨by rw [hX], by rw [hX, ht]; with_reducible exact hP, hS.F ht⟩) hS.2.2 dL_acts_533
                    · refine lv_iconst (v := 1) hx hb dL_acts_528 (by decide) ?_
                      refine lv_goto (tgt := 533) hx hb dL_acts_529 (by decide) ?_
                      have hX : (xL_acts R F p9 vn wy kw o q) = ((1 : Int32), ((xX1_walk (sR (sR R 88 ((5 * ((vn / 24) % kw)) + 1) (nI (vn % 24))) 88 ((5 * ((xL_who (R 83) (R 88) (R 88 ((5 * ((vn / 24) % kw)) + 1)) 3 kw)).toNatClampNeg) + 3) (nI (vn % 24))) F (nI ((vn / 24) % kw)) (nI (vn % 24)) o q).2.1), ((xX1_walk (sR (sR R 88 ((5 * ((vn / 24) % kw)) + 1) (nI (vn % 24))) 88 ((5 * ((xL_who (R 83) (R 88) (R 88 ((5 * ((vn / 24) % kw)) + 1)) 3 kw)).toNatClampNeg) + 3) (nI (vn % 24))) F (nI ((vn / 24) % kw)) (nI (vn % 24)) o q).2.2)) := by unfold xL_acts; rw [if_neg c_29, if_neg c_76, if_pos c_116, if_neg c_337, if_neg c_343, if_neg c_429]; unfold cutL_acts_432; rw [if_neg c_441, if_pos c_453, if_pos c_525]
                      exact W.zret (v := (1 : Int32)) hx hb hr rfl (fun t ht hW => ⟨by rw [hX], by rw [hX, ht]; with_reducible exact hP, hS.F ht⟩) hS.2.2 dL_acts_533
                  · refine lv_aload_n hx hb dL_acts_456 rfl (lv_at hl 4 rfl) ?_
                    refine lv_iload hx hb dL_acts_457 (lv_at hl 0 rfl) ?_
                    refine lv_iload hx hb dL_acts_459 (lv_at hl 1 rfl) ?_
                    refine q_callI (va_runV (As := [.int (nI ((vn / 24) % kw)), .int (nI (vn % 24))]) (rest := []) ⟨hx, hb, hml, hown, hts⟩ (mX1_walk l D cI cS ad hI R F (nI ((vn / 24) % kw)) (nI (vn % 24)) o q ho hq hF0 hF1) (cwV 2 hts gL_acts_X1_walk rfl rfl rfl (by decide +kernel) ⟨Nat.le_of_ble_eq_true rfl, Nat.le_of_ble_eq_true rfl⟩) (PW_preV (i := 0) (by decide) CC_0 rfl rfl hK hP) rfl rfl hl.1 rfl (lv_room (Nat.le_of_ble_eq_true rfl)) dL_acts_461 ⟨Nat.zero_le _, Nat.zero_le _⟩) hS (fun H locs hP hS => ?_)
                    refine lv_ldc (v := -100002) hx hb hown lk33 dL_acts_464 ?_
                    refine lv_icmp_ne (tgt := 473) hx hb dL_acts_466 (by decide) (fun c_466 => ?_) (fun c_466 => ?_)
                    · refine lv_iconst (v := 0) hx hb dL_acts_473 (by decide) ?_
                      have hX : (xL_acts R F p9 vn wy kw o q) = ((0 : Int32), ((xX1_walk R F (nI ((vn / 24) % kw)) (nI (vn % 24)) o q).2.1), ((xX1_walk R F (nI ((vn / 24) % kw)) (nI (vn % 24)) o q).2.2)) := by unfold xL_acts; rw [if_neg c_29, if_neg c_76, if_pos c_116, if_neg c_337, if_neg c_343, if_neg c_429]; unfold cutL_acts_432; rw [if_neg c_441, if_neg c_453, if_neg c_466]
                      exact W.zret (v := (0 : Int32)) hx hb hr rfl (fun t ht hW => ⟨by rw [hX], by rw [hX, ht]; with_reducible exact hP, hS.F ht⟩) hS.2.2 dL_acts_474
                    · refine lv_iconst (v := 1) hx hb dL_acts_469 (by decide) ?_
                      refine lv_goto (tgt := 474) hx hb dL_acts_470 (by decide) ?_
                      have hX : (xL_acts R F p9 vn wy kw o q) = ((1 : Int32), ((xX1_walk R F (nI ((vn / 24) % kw)) (nI (vn % 24)) o q).2.1), ((xX1_walk R F (nI ((vn / 24) % kw)) (nI (vn % 24)) o q).2.2)) := by unfold xL_acts; rw [if_neg c_29, if_neg c_76, if_pos c_116, if_neg c_337, if_neg c_343, if_neg c_429]; unfold cutL_acts_432; rw [if_neg c_441, if_neg c_453, if_pos c_466]
                      exact W.zret (v := (1 : Int32)) hx hb hr rfl (fun t ht hW => ⟨by rw [hX], by rw [hX, ht]; with_reducible exact hP, hS.F ht⟩) hS.2.2 dL_acts_474
            · exact absurd c_407 c_343
          · have n_343 : (kw) = (0) := (nI_eq (a := kw) (b := 0) (by omega) (by omega)).mp c_343
            refine lv_aload_n hx hb dL_acts_346 rfl (lv_at hl 3 rfl) ?_
            refine lv_iconst (v := 0) hx hb dL_acts_347 (by decide) ?_
            refine lv_iconst (v := 0) hx hb dL_acts_348 (by decide) ?_
            refine q_callI (va_runV (As := [.int (0 : Int32), .int (0 : Int32)]) (rest := []) ⟨hx, hb, hml, hown, hts⟩ (mX1_walk l D cI cS ad hI R F (0 : Int32) (0 : Int32) o q ho hq hF0 hF1) (cwV 2 hts gL_acts_X1_walk rfl rfl rfl (by decide +kernel) ⟨Nat.le_of_ble_eq_true rfl, Nat.le_of_ble_eq_true rfl⟩) (PW_preV (i := 0) (by decide) CC_0 rfl rfl hK hP) rfl rfl hl.1 rfl (lv_room (Nat.le_of_ble_eq_true rfl)) dL_acts_349 ⟨Nat.zero_le _, Nat.zero_le _⟩) hS (fun H locs hP hS => ?_)
            have hnb := (act_nobody (R := R) (F := F) (o := o) (q := q) (by rw [hF2, (by omega : kw = 0)]; rfl)).1
            rw [hnb] at hP
            dsimp only at hP
            refine q_top (y := (-100001 : Int32)) (by rw [hnb]) ?_
            refine lv_ldc (v := -100001) hx hb hown lk32 dL_acts_352 ?_
            refine lv_icmp_ne (tgt := 402) hx hb dL_acts_354 (by decide) (fun c_354 => ?_) (fun c_354 => ?_)
            · exact absurd (by decide) c_354
            · refine lv_aload_n hx hb dL_acts_357 rfl (lv_at hl 3 rfl) ?_
              refine lv_iconst (v := 0) hx hb dL_acts_358 (by decide) ?_
              refine q_callI (va_runV (As := [.int (0 : Int32)]) (rest := []) ⟨hx, hb, hml, hown, hts⟩ (mX1_leave l D cI cS ad hI R F (0 : Int32) o q ho hq hF0 hF1) (cwV 1 hts gL_acts_X1_leave rfl rfl rfl (by decide +kernel) ⟨Nat.le_of_ble_eq_true rfl, Nat.le_of_ble_eq_true rfl⟩) (PW_preV (i := 0) (by decide) CC_0 rfl rfl hK hP) rfl rfl hl.1 rfl (lv_room (Nat.le_of_ble_eq_true rfl)) dL_acts_359 ⟨Nat.zero_le _, Nat.zero_le _⟩) hS (fun H locs hP hS => ?_)
              have hnb := (act_nobody (R := R) (F := F) (o := o) (q := q) (by rw [hF2, (by omega : kw = 0)]; rfl)).2.1
              rw [hnb] at hP
              dsimp only at hP
              refine q_top (y := (-100001 : Int32)) (by rw [hnb]) ?_
              refine lv_ldc (v := -100001) hx hb hown lk32 dL_acts_362 ?_
              refine lv_icmp_ne (tgt := 402) hx hb dL_acts_364 (by decide) (fun c_364 => ?_) (fun c_364 => ?_)
              · exact absurd c_354 c_364
              · refine lv_aload_n hx hb dL_acts_367 rfl (lv_at hl 3 rfl) ?_
                refine lv_iconst (v := 0) hx hb dL_acts_368 (by decide) ?_
                refine q_callI (va_runV (As := [.int (0 : Int32)]) (rest := []) ⟨hx, hb, hml, hown, hts⟩ (mX1_bill l D cI cS ad hI R F (0 : Int32) o q ho hq hF0 hF1) (cwV 1 hts gL_acts_X1_bill rfl rfl rfl (by decide +kernel) ⟨Nat.le_of_ble_eq_true rfl, Nat.le_of_ble_eq_true rfl⟩) (PW_preV (i := 0) (by decide) CC_0 rfl rfl hK hP) rfl rfl hl.1 rfl (lv_room (Nat.le_of_ble_eq_true rfl)) dL_acts_369 ⟨Nat.zero_le _, Nat.zero_le _⟩) hS (fun H locs hP hS => ?_)
                have hnb := (act_nobody (R := R) (F := F) (o := o) (q := q) (by rw [hF2, (by omega : kw = 0)]; rfl)).2.2.1
                rw [hnb] at hP
                dsimp only at hP
                refine q_top (y := (-100001 : Int32)) (by rw [hnb]) ?_
                refine lv_ldc (v := -100001) hx hb hown lk32 dL_acts_372 ?_
                refine lv_icmp_ne (tgt := 402) hx hb dL_acts_374 (by decide) (fun c_374 => ?_) (fun c_374 => ?_)
                · exact absurd c_364 c_374
                · refine lv_aload_n hx hb dL_acts_377 rfl (lv_at hl 3 rfl) ?_
                  refine lv_iconst (v := 0) hx hb dL_acts_378 (by decide) ?_
                  refine q_callI (va_runV (As := [.int (0 : Int32)]) (rest := []) ⟨hx, hb, hml, hown, hts⟩ (mX1_complain l D cI cS ad hI R F (0 : Int32) o q ho hq hF0 hF1) (cwV 1 hts gL_acts_X1_complain rfl rfl rfl (by decide +kernel) ⟨Nat.le_of_ble_eq_true rfl, Nat.le_of_ble_eq_true rfl⟩) (PW_preV (i := 0) (by decide) CC_0 rfl rfl hK hP) rfl rfl hl.1 rfl (lv_room (Nat.le_of_ble_eq_true rfl)) dL_acts_379 ⟨Nat.zero_le _, Nat.zero_le _⟩) hS (fun H locs hP hS => ?_)
                  have hnb := (act_nobody (R := R) (F := F) (o := o) (q := q) (by rw [hF2, (by omega : kw = 0)]; rfl)).2.2.2.1
                  rw [hnb] at hP
                  dsimp only at hP
                  refine q_top (y := (-100001 : Int32)) (by rw [hnb]) ?_
                  refine lv_ldc (v := -100001) hx hb hown lk32 dL_acts_382 ?_
                  refine lv_icmp_ne (tgt := 402) hx hb dL_acts_384 (by decide) (fun c_384 => ?_) (fun c_384 => ?_)
                  · exact absurd c_374 c_384
                  · refine lv_aload_n hx hb dL_acts_387 rfl (lv_at hl 3 rfl) ?_
                    refine lv_iconst (v := 0) hx hb dL_acts_388 (by decide) ?_
                    refine lv_iconst (v := 1) hx hb dL_acts_389 (by decide) ?_
                    refine q_callI (va_runV (As := [.int (0 : Int32), .int (1 : Int32)]) (rest := []) ⟨hx, hb, hml, hown, hts⟩ (mX1_swap l D cI cS ad hI R F (0 : Int32) (1 : Int32) o q ho hq hF0 hF1) (cwV 2 hts gL_acts_X1_swap rfl rfl rfl (by decide +kernel) ⟨Nat.le_of_ble_eq_true rfl, Nat.le_of_ble_eq_true rfl⟩) (PW_preV (i := 0) (by decide) CC_0 rfl rfl hK hP) rfl rfl hl.1 rfl (lv_room (Nat.le_of_ble_eq_true rfl)) dL_acts_390 ⟨Nat.zero_le _, Nat.zero_le _⟩) hS (fun H locs hP hS => ?_)
                    have hnb := (act_nobody (R := R) (F := F) (o := o) (q := q) (by rw [hF2, (by omega : kw = 0)]; rfl)).2.2.2.2
                    rw [hnb] at hP
                    dsimp only at hP
                    refine q_top (y := (-100001 : Int32)) (by rw [hnb]) ?_
                    refine lv_ldc (v := -100001) hx hb hown lk32 dL_acts_393 ?_
                    refine lv_icmp_ne (tgt := 402) hx hb dL_acts_395 (by decide) (fun c_395 => ?_) (fun c_395 => ?_)
                    · exact absurd c_384 c_395
                    · refine lv_iconst (v := 1) hx hb dL_acts_398 (by decide) ?_
                      refine lv_goto (tgt := 403) hx hb dL_acts_399 (by decide) ?_
                      have hX : (xL_acts R F p9 vn wy kw o q) = ((1 : Int32), R, F) := by unfold xL_acts; rw [if_neg c_29, if_neg c_76, if_pos c_116, if_neg c_337, if_pos c_343]; unfold cutL_acts_346; rfl
                      exact W.zret (v := (1 : Int32)) hx hb hr rfl (fun t ht hW => ⟨by rw [hX], by rw [hX, ht]; with_reducible exact hP, hS.F ht⟩) hS.2.2 dL_acts_403
      · have n_116 : (wy) < (7) := Nat.lt_of_not_le (fun q => c_116 ((nI_leI (a := 7) (b := wy) (by omega) (by omega)).mpr q))
        refine lv_bipush (v := 20) hx hb dL_acts_119 (by decide) ?_
        refine lv_iload hx hb dL_acts_121 (lv_at hl 2 rfl) ?_
        refine lv_bipush (v := 24) hx hb dL_acts_123 (by decide) ?_
        refine lv_idiv hx hb dL_acts_125 (by decide) ?_
        refine q_top (y := (nI (vn / 24))) (pk_div (a := vn) (d := 24) (by omega) (by omega) (by omega)) ?_
        refine lv_sipush (v := 131) hx hb dL_acts_126 (by decide) ?_
        refine lv_irem hx hb dL_acts_129 (by decide) ?_
        refine q_top (y := (nI ((vn / 24) % 131))) (pk_rem (a := (vn / 24)) (d := 131) (by omega) (by omega) (by omega)) ?_
        refine lv_iadd hx hb dL_acts_130 ?_
        refine q_top (y := (nI (20 + ((vn / 24) % 131)))) (nI_add 20 ((vn / 24) % 131)) ?_
        refine lv_istore (lv' := [(12, .int (nI (20 + ((vn / 24) % 131)))), (11, .int (nI (vn % 24))), (10, .int (nI wy)), (9, .int (nI vn)), (0, .ref (ad 0)), (1, .ref (ad 83)), (2, .ref (ad 84)), (3, .ref (ad 85)), (4, .ref (ad 86)), (5, .ref (ad 87)), (6, .ref (ad 88)), (7, .ref (ad 89)), (8, .int p9)]) hx hb dL_acts_131 hl (by decide) rfl (fun ls hl => ?_)
        refine lv_iload hx hb dL_acts_133 (lv_at hl 3 rfl) ?_
        refine lv_iconst (v := 4) hx hb dL_acts_135 (by decide) ?_
        refine lv_irem hx hb dL_acts_136 (by decide) ?_
        refine q_top (y := (nI (vn % 4))) (pk_rem (a := vn) (d := 4) (by omega) (by omega) (by omega)) ?_
        refine lv_if_ne (tgt := 155) hx hb dL_acts_137 (by decide) (fun c_137 => ?_) (fun c_137 => ?_)
        · have n_137 : ¬ ((vn % 4)) = (0) := fun q => c_137 ((nI_eq (a := (vn % 4)) (b := 0) (by omega) (by omega)).mpr q)
          refine lv_iload hx hb dL_acts_155 (lv_at hl 0 rfl) ?_
          refine lv_istore (lv' := [(13, .int (nI (20 + ((vn / 24) % 131)))), (12, .int (nI (20 + ((vn / 24) % 131)))), (11, .int (nI (vn % 24))), (10, .int (nI wy)), (9, .int (nI vn)), (0, .ref (ad 0)), (1, .ref (ad 83)), (2, .ref (ad 84)), (3, .ref (ad 85)), (4, .ref (ad 86)), (5, .ref (ad 87)), (6, .ref (ad 88)), (7, .ref (ad 89)), (8, .int p9)]) hx hb dL_acts_157 hl (by decide) rfl (fun ls hl => ?_)
          refine lv_aload_n hx hb dL_acts_159 rfl (lv_at hl 6 rfl) ?_
          refine lv_aload hx hb dL_acts_160 (lv_at hl 11 rfl) ?_
          refine lv_iload hx hb dL_acts_162 (lv_at hl 2 rfl) ?_
          refine lv_iconst (v := 1) hx hb dL_acts_164 (by decide) ?_
          refine q_callS (va_runS (As := [.ref (ad 83), .ref (ad 88), .int (nI (vn % 24)), .int (nI 1)]) (rest := []) ⟨hx, hb, hml, hown, hts⟩ (mL_who l D cI cS ad hI R F (nI (vn % 24)) 1 kw (by omega) hkw hW) (va_cwS 4 hts gL_acts_L_who rfl rfl rfl (by decide +kernel) ⟨Nat.le_of_ble_eq_true rfl, Nat.le_of_ble_eq_true rfl⟩) (PW_preS hK hP) rfl rfl hl.1 rfl (lv_room (Nat.le_of_ble_eq_true rfl)) dL_acts_165 ⟨Nat.zero_le _, Nat.zero_le _⟩) ?_
          refine lv_if_lt (tgt := 192) hx hb dL_acts_168 (by decide) (fun c_168 => ?_) (fun c_168 => ?_)
          · refine lv_aload_n hx hb dL_acts_192 rfl (lv_at hl 6 rfl) ?_
            refine lv_iconst (v := 1) hx hb dL_acts_193 (by decide) ?_
            refine q_ildN hx hb hK hP 83 6 (ar_83) 1 dL_acts_194 rfl (by omega) (by decide) ?_
            refine q_top (y := (nI kw)) hW ?_
            refine lv_bipush (v := 8) hx hb dL_acts_195 (by decide) ?_
            refine lv_icmp_ne (tgt := 221) hx hb dL_acts_197 (by decide) (fun c_197 => ?_) (fun c_197 => ?_)
            · have n_197 : ¬ (kw) = (8) := fun q => c_197 ((nI_eq (a := kw) (b := 8) (by omega) (by omega)).mpr q)
              refine lv_iconst (v := 5) hx hb dL_acts_221 (by decide) ?_
              refine lv_aload_n hx hb dL_acts_222 rfl (lv_at hl 6 rfl) ?_
              refine lv_iconst (v := 1) hx hb dL_acts_223 (by decide) ?_
              refine q_ildN hx hb hK hP 83 6 (ar_83) 1 dL_acts_224 rfl (by omega) (by decide) ?_
              refine q_top (y := (nI kw)) hW ?_
              refine lv_imul hx hb dL_acts_225 ?_
              refine q_top (y := (nI (5 * kw))) (pk_mul 5 kw) ?_
              refine lv_istore (lv' := [(14, .int (nI (5 * kw))), (13, .int (nI (20 + ((vn / 24) % 131)))), (12, .int (nI (20 + ((vn / 24) % 131)))), (11, .int (nI (vn % 24))), (10, .int (nI wy)), (9, .int (nI vn)), (0, .ref (ad 0)), (1, .ref (ad 83)), (2, .ref (ad 84)), (3, .ref (ad 85)), (4, .ref (ad 86)), (5, .ref (ad 87)), (6, .ref (ad 88)), (7, .ref (ad 89)), (8, .int p9)]) hx hb dL_acts_226 hl (by decide) rfl (fun ls hl => ?_)
              refine lv_iconst (v := 0) hx hb dL_acts_228 (by decide) ?_
              refine lv_istore (lv' := [(15, .int (0 : Int32)), (14, .int (nI (5 * kw))), (13, .int (nI (20 + ((vn / 24) % 131)))), (12, .int (nI (20 + ((vn / 24) % 131)))), (11, .int (nI (vn % 24))), (10, .int (nI wy)), (9, .int (nI vn)), (0, .ref (ad 0)), (1, .ref (ad 83)), (2, .ref (ad 84)), (3, .ref (ad 85)), (4, .ref (ad 86)), (5, .ref (ad 87)), (6, .ref (ad 88)), (7, .ref (ad 89)), (8, .int p9)]) hx hb dL_acts_229 hl (by decide) rfl (fun ls hl => ?_)
              refine q_loop (fun nn H locs ls => ∃ (k : Nat) (R1 : Nat → Nat → Int32), k + nn = 5 ∧ hL_acts_231 R F p9 vn wy kw o q nn k R1 = (xL_acts R F p9 vn wy kw o q) ∧ WP D cI cS ad R1 F H ∧ va_S (AA ad) s.heap H locs ∧ lv_has ls 16 [(15, .int (nI k)), (14, .int (nI (5 * kw))), (13, .int (nI (20 + ((vn / 24) % 131)))), (12, .int (nI (20 + ((vn / 24) % 131)))), (11, .int (nI (vn % 24))), (10, .int (nI wy)), (9, .int (nI vn)), (0, .ref (ad 0)), (1, .ref (ad 83)), (2, .ref (ad 84)), (3, .ref (ad 85)), (4, .ref (ad 86)), (5, .ref (ad 87)), (6, .ref (ad 88)), (7, .ref (ad 89)), (8, .int p9)]) 5 ⟨0, R, by omega, by unfold xL_acts; rw [if_neg c_29, if_neg c_76, if_neg c_116]; unfold cutL_acts_119; rw [if_neg c_137, if_pos c_168, if_neg c_197], hP, hS, lv_sub hl [0, 1, 2, 3, 4, 5, 6, 7, 8, 9, 10, 11, 12, 13, 14, 15] rfl⟩ ?_ ?_
              · intro H locs ls hz
                obtain ⟨k, R1, hkn, hsp, hP, hS, hl⟩ := hz
                refine lv_iload hx hb dL_acts_231 (lv_at hl 0 rfl) ?_
                refine lv_iconst (v := 5) hx hb dL_acts_233 (by decide) ?_
                refine lv_icmp_ge (tgt := 302) hx hb dL_acts_234 (by decide) (fun c_234 => ?_) (fun c_234 => ?_)
                · refine lv_aload_n hx hb dL_acts_302 rfl (lv_at hl 8 rfl) ?_
                  refine lv_iconst (v := 1) hx hb dL_acts_303 (by decide) ?_
                  refine lv_dup2_11 hx hb dL_acts_304 rfl rfl ?_
                  refine q_ildN hx hb hK hP 83 6 (ar_83) 1 dL_acts_305 rfl (by omega) (by decide) ?_
                  refine lv_iconst (v := 1) hx hb dL_acts_306 (by decide) ?_
                  refine lv_iadd hx hb dL_acts_307 ?_
                  refine q_istN hx hb hK hI hP hS 83 6 (ar_83) 1 dL_acts_308 rfl (by omega) (by decide) (fun H locs hP hS => ?_)
                  have hP : WP D cI cS ad (sR R1 83 1 ((R1 83 1) + (1 : Int32))) F H := hP
                  refine lv_aload_n hx hb dL_acts_309 rfl (lv_at hl 7 rfl) ?_
                  refine lv_iload hx hb dL_acts_310 (lv_at hl 3 rfl) ?_
                  refine lv_iload hx hb dL_acts_312 (lv_at hl 2 rfl) ?_
                  refine lv_iload hx hb dL_acts_314 (lv_at hl 4 rfl) ?_
                  refine q_callI (va_runV (As := [.int (nI (20 + ((vn / 24) % 131))), .int (nI (20 + ((vn / 24) % 131))), .int (nI (vn % 24))]) (rest := []) ⟨hx, hb, hml, hown, hts⟩ (mX1_board l D cI cS ad hI (sR R1 83 1 ((R1 83 1) + (1 : Int32))) F (nI (20 + ((vn / 24) % 131))) (nI (20 + ((vn / 24) % 131))) (nI (vn % 24)) o q ho hq hF0 hF1) (cwV 3 hts gL_acts_X1_board rfl rfl rfl (by decide +kernel) ⟨Nat.le_of_ble_eq_true rfl, Nat.le_of_ble_eq_true rfl⟩) (PW_preV (i := 0) (by decide) CC_0 rfl rfl hK hP) rfl rfl hl.1 rfl (lv_room (Nat.le_of_ble_eq_true rfl)) dL_acts_316 ⟨Nat.zero_le _, Nat.zero_le _⟩) hS (fun H locs hP hS => ?_)
                  refine lv_aload_n hx hb dL_acts_319 rfl (lv_at hl 8 rfl) ?_
                  refine lv_iconst (v := 1) hx hb dL_acts_320 (by decide) ?_
                  refine q_ildN hx hb hK hP 83 6 (ar_83) 1 dL_acts_321 rfl (by omega) (by decide) ?_
                  refine lv_iconst (v := 1) hx hb dL_acts_322 (by decide) ?_
                  refine lv_isub hx hb dL_acts_323 ?_
                  refine lv_icmp_ne (tgt := 331) hx hb dL_acts_324 (by decide) (fun c_324 => ?_) (fun c_324 => ?_)
                  · refine lv_iconst (v := 0) hx hb dL_acts_331 (by decide) ?_
                    have hX : (xL_acts R F p9 vn wy kw o q) = ((0 : Int32), ((xX1_board (sR R1 83 1 ((R1 83 1) + (1 : Int32))) F (nI (20 + ((vn / 24) % 131))) (nI (20 + ((vn / 24) % 131))) (nI (vn % 24)) o q).2.1), ((xX1_board (sR R1 83 1 ((R1 83 1) + (1 : Int32))) F (nI (20 + ((vn / 24) % 131))) (nI (20 + ((vn / 24) % 131))) (nI (vn % 24)) o q).2.2)) := by rw [← hsp, hL_acts_231_z, if_neg c_324]
                    exact W.zret (v := (0 : Int32)) hx hb hr rfl (fun t ht hW => ⟨by rw [hX], by rw [hX, ht]; with_reducible exact hP, hS.F ht⟩) hS.2.2 dL_acts_332
                  · refine lv_iconst (v := 1) hx hb dL_acts_327 (by decide) ?_
                    refine lv_goto (tgt := 332) hx hb dL_acts_328 (by decide) ?_
                    have hX : (xL_acts R F p9 vn wy kw o q) = ((1 : Int32), ((xX1_board (sR R1 83 1 ((R1 83 1) + (1 : Int32))) F (nI (20 + ((vn / 24) % 131))) (nI (20 + ((vn / 24) % 131))) (nI (vn % 24)) o q).2.1), ((xX1_board (sR R1 83 1 ((R1 83 1) + (1 : Int32))) F (nI (20 + ((vn / 24) % 131))) (nI (20 + ((vn / 24) % 131))) (nI (vn % 24)) o q).2.2)) := by rw [← hsp, hL_acts_231_z, if_pos c_324]
                    exact W.zret (v := (1 : Int32)) hx hb hr rfl (fun t ht hW => ⟨by rw [hX], by rw [hX, ht]; with_reducible exact hP, hS.F ht⟩) hS.2.2 dL_acts_332
                · exact absurd (nI_le (a := 5) (b := k) (by omega) (by omega)) c_234
              · intro n ih H locs ls hz
                obtain ⟨k, R1, hkn, hsp, hP, hS, hl⟩ := hz
                refine lv_iload hx hb dL_acts_231 (lv_at hl 0 rfl) ?_
                refine lv_iconst (v := 5) hx hb dL_acts_233 (by decide) ?_
                refine lv_icmp_ge (tgt := 302) hx hb dL_acts_234 (by decide) (fun c_234 => ?_) (fun c_234 => ?_)
                · exact absurd c_234 (nI_ge (a := k) (b := 5) (by omega) (by omega))
                · refine lv_aload hx hb dL_acts_237 (lv_at hl 13 rfl) ?_
                  refine lv_iload hx hb dL_acts_239 (lv_at hl 1 rfl) ?_
                  refine lv_iload hx hb dL_acts_241 (lv_at hl 0 rfl) ?_
                  refine lv_iadd hx hb dL_acts_243 ?_
                  refine q_top (y := (nI ((5 * kw) + k))) (nI_add (5 * kw) k) ?_
                  refine lv_iload hx hb dL_acts_244 (lv_at hl 0 rfl) ?_
                  refine lv_if_ne (tgt := 254) hx hb dL_acts_246 (by decide) (fun c_246 => ?_) (fun c_246 => ?_)
                  · have n_246 : ¬ (k) = (0) := fun q => c_246 ((nI_eq (a := k) (b := 0) (by omega) (by omega)).mpr q)
                    refine lv_iload hx hb dL_acts_254 (lv_at hl 0 rfl) ?_
                    refine lv_iconst (v := 2) hx hb dL_acts_256 (by decide) ?_
                    refine lv_icmp_ne (tgt := 265) hx hb dL_acts_257 (by decide) (fun c_257 => ?_) (fun c_257 => ?_)
                    · have n_257 : ¬ (k) = (2) := fun q => c_257 ((nI_eq (a := k) (b := 2) (by omega) (by omega)).mpr q)
                      refine lv_iload hx hb dL_acts_265 (lv_at hl 0 rfl) ?_
                      refine lv_iconst (v := 4) hx hb dL_acts_267 (by decide) ?_
                      refine lv_icmp_ne (tgt := 275) hx hb dL_acts_268 (by decide) (fun c_268 => ?_) (fun c_268 => ?_)
                      · have n_268 : ¬ (k) = (4) := fun q => c_268 ((nI_eq (a := k) (b := 4) (by omega) (by omega)).mpr q)
                        refine lv_iload hx hb dL_acts_275 (lv_at hl 4 rfl) ?_
                        refine q_istN hx hb hK hI hP hS 88 40 (ar_88) ((5 * kw) + k) dL_acts_277 rfl (by omega) (by decide) (fun H locs hP hS => ?_)
                        have hP : WP D cI cS ad (sR R1 88 ((5 * kw) + k) (nI (vn % 24))) F H := hP
                        refine lv_aload hx hb dL_acts_278 (lv_at hl 14 rfl) ?_
                        refine lv_iload hx hb dL_acts_280 (lv_at hl 1 rfl) ?_
                        refine lv_iload hx hb dL_acts_282 (lv_at hl 0 rfl) ?_
                        refine lv_iadd hx hb dL_acts_284 ?_
                        refine q_top (y := (nI ((5 * kw) + k))) (nI_add (5 * kw) k) ?_
                        refine lv_iload hx hb dL_acts_285 (lv_at hl 0 rfl) ?_
                        refine lv_if_ne (tgt := 294) hx hb dL_acts_287 (by decide) (fun c_287 => ?_) (fun c_287 => ?_)
                        · refine lv_iconst (v := 0) hx hb dL_acts_294 (by decide) ?_
                          refine q_istN hx hb hK hI hP hS 89 40 (ar_89) ((5 * kw) + k) dL_acts_295 rfl (by omega) (by decide) (fun H locs hP hS => ?_)
                          have hP : WP D cI cS ad (sR (sR R1 88 ((5 * kw) + k) (nI (vn % 24))) 89 ((5 * kw) + k) (0 : Int32)) F H := hP
                          refine lv_iinc (v := (nI (k + 1))) (lv' := [(15, .int (nI (k + 1))), (14, .int (nI (5 * kw))), (13, .int (nI (20 + ((vn / 24) % 131)))), (12, .int (nI (20 + ((vn / 24) % 131)))), (11, .int (nI (vn % 24))), (10, .int (nI wy)), (9, .int (nI vn)), (0, .ref (ad 0)), (1, .ref (ad 83)), (2, .ref (ad 84)), (3, .ref (ad 85)), (4, .ref (ad 86)), (5, .ref (ad 87)), (6, .ref (ad 88)), (7, .ref (ad 89)), (8, .int p9)]) hx hb dL_acts_296 hl (k := 0) rfl (nI_1 k) (by decide) rfl (fun ls hl => ?_)
                          refine lv_goto (tgt := 231) hx hb dL_acts_299 (by decide) ?_
                          exact ih _ _ _ ⟨(k + 1), (sR (sR R1 88 ((5 * kw) + k) (nI (vn % 24))) 89 ((5 * kw) + k) (0 : Int32)), by omega, by rw [← hsp, hL_acts_231_s, if_neg c_246, if_neg c_257, if_neg c_268], hP, hS, lv_sub hl [0, 1, 2, 3, 4, 5, 6, 7, 8, 9, 10, 11, 12, 13, 14, 15] rfl⟩
                        · exact absurd c_287 c_246
                      · have n_268 : (k) = (4) := (nI_eq (a := k) (b := 4) (by omega) (by omega)).mp c_268
                        refine lv_iconst (v := 0) hx hb dL_acts_271 (by decide) ?_
                        refine lv_goto (tgt := 277) hx hb dL_acts_272 (by decide) ?_
                        refine q_istN hx hb hK hI hP hS 88 40 (ar_88) ((5 * kw) + k) dL_acts_277 rfl (by omega) (by decide) (fun H locs hP hS => ?_)
                        have hP : WP D cI cS ad (sR R1 88 ((5 * kw) + k) (0 : Int32)) F H := hP
                        refine lv_aload hx hb dL_acts_278 (lv_at hl 14 rfl) ?_
                        refine lv_iload hx hb dL_acts_280 (lv_at hl 1 rfl) ?_
                        refine lv_iload hx hb dL_acts_282 (lv_at hl 0 rfl) ?_
                        refine lv_iadd hx hb dL_acts_284 ?_
                        refine q_top (y := (nI ((5 * kw) + k))) (nI_add (5 * kw) k) ?_
                        refine lv_iload hx hb dL_acts_285 (lv_at hl 0 rfl) ?_
                        refine lv_if_ne (tgt := 294) hx hb dL_acts_287 (by decide) (fun c_287 => ?_) (fun c_287 => ?_)
                        · refine lv_iconst (v := 0) hx hb dL_acts_294 (by decide) ?_
                          refine q_istN hx hb hK hI hP hS 89 40 (ar_89) ((5 * kw) + k) dL_acts_295 rfl (by omega) (by decide) (fun H locs hP hS => ?_)
                          have hP : WP D cI cS ad (sR (sR R1 88 ((5 * kw) + k) (0 : Int32)) 89 ((5 * kw) + k) (0 : Int32)) F H := hP
                          refine lv_iinc (v := (nI (k + 1))) (lv' := [(15, .int (nI (k + 1))), (14, .int (nI (5 * kw))), (13, .int (nI (20 + ((vn / 24) % 131)))), (12, .int (nI (20 + ((vn / 24) % 131)))), (11, .int (nI (vn % 24))), (10, .int (nI wy)), (9, .int (nI vn)), (0, .ref (ad 0)), (1, .ref (ad 83)), (2, .ref (ad 84)), (3, .ref (ad 85)), (4, .ref (ad 86)), (5, .ref (ad 87)), (6, .ref (ad 88)), (7, .ref (ad 89)), (8, .int p9)]) hx hb dL_acts_296 hl (k := 0) rfl (nI_1 k) (by decide) rfl (fun ls hl => ?_)
                          refine lv_goto (tgt := 231) hx hb dL_acts_299 (by decide) ?_
                          exact ih _ _ _ ⟨(k + 1), (sR (sR R1 88 ((5 * kw) + k) (0 : Int32)) 89 ((5 * kw) + k) (0 : Int32)), by omega, by rw [← hsp, hL_acts_231_s, if_neg c_246, if_neg c_257, if_pos c_268], hP, hS, lv_sub hl [0, 1, 2, 3, 4, 5, 6, 7, 8, 9, 10, 11, 12, 13, 14, 15] rfl⟩
                        · exact absurd c_287 c_246
                    · have n_257 : (k) = (2) := (nI_eq (a := k) (b := 2) (by omega) (by omega)).mp c_257
                      refine lv_iload hx hb dL_acts_260 (lv_at hl 2 rfl) ?_
                      refine lv_goto (tgt := 277) hx hb dL_acts_262 (by decide) ?_
                      refine q_istN hx hb hK hI hP hS 88 40 (ar_88) ((5 * kw) + k) dL_acts_277 rfl (by omega) (by decide) (fun H locs hP hS => ?_)
                      have hP : WP D cI cS ad (sR R1 88 ((5 * kw) + k) (nI (20 + ((vn / 24) % 131)))) F H := hP
                      refine lv_aload hx hb dL_acts_278 (lv_at hl 14 rfl) ?_
                      refine lv_iload hx hb dL_acts_280 (lv_at hl 1 rfl) ?_
                      refine lv_iload hx hb dL_acts_282 (lv_at hl 0 rfl) ?_
                      refine lv_iadd hx hb dL_acts_284 ?_
                      refine q_top (y := (nI ((5 * kw) + k))) (nI_add (5 * kw) k) ?_
                      refine lv_iload hx hb dL_acts_285 (lv_at hl 0 rfl) ?_
                      refine lv_if_ne (tgt := 294) hx hb dL_acts_287 (by decide) (fun c_287 => ?_) (fun c_287 => ?_)
                      · refine lv_iconst (v := 0) hx hb dL_acts_294 (by decide) ?_
                        refine q_istN hx hb hK hI hP hS 89 40 (ar_89) ((5 * kw) + k) dL_acts_295 rfl (by omega) (by decide) (fun H locs hP hS => ?_)
                        have hP : WP D cI cS ad (sR (sR R1 88 ((5 * kw) + k) (nI (20 + ((vn / 24) % 131)))) 89 ((5 * kw) + k) (0 : Int32)) F H := hP
                        refine lv_iinc (v := (nI (k + 1))) (lv' := [(15, .int (nI (k + 1))), (14, .int (nI (5 * kw))), (13, .int (nI (20 + ((vn / 24) % 131)))), (12, .int (nI (20 + ((vn / 24) % 131)))), (11, .int (nI (vn % 24))), (10, .int (nI wy)), (9, .int (nI vn)), (0, .ref (ad 0)), (1, .ref (ad 83)), (2, .ref (ad 84)), (3, .ref (ad 85)), (4, .ref (ad 86)), (5, .ref (ad 87)), (6, .ref (ad 88)), (7, .ref (ad 89)), (8, .int p9)]) hx hb dL_acts_296 hl (k := 0) rfl (nI_1 k) (by decide) rfl (fun ls hl => ?_)
                        refine lv_goto (tgt := 231) hx hb dL_acts_299 (by decide) ?_
                        exact ih _ _ _ ⟨(k + 1), (sR (sR R1 88 ((5 * kw) + k) (nI (20 + ((vn / 24) % 131)))) 89 ((5 * kw) + k) (0 : Int32)), by omega, by rw [← hsp, hL_acts_231_s, if_neg c_246, if_pos c_257], hP, hS, lv_sub hl [0, 1, 2, 3, 4, 5, 6, 7, 8, 9, 10, 11, 12, 13, 14, 15] rfl⟩
                      · exact absurd c_287 c_246
                  · have n_246 : (k) = (0) := (nI_eq (a := k) (b := 0) (by omega) (by omega)).mp c_246
                    refine lv_iload hx hb dL_acts_249 (lv_at hl 3 rfl) ?_
                    refine lv_goto (tgt := 277) hx hb dL_acts_251 (by decide) ?_
                    refine q_istN hx hb hK hI hP hS 88 40 (ar_88) ((5 * kw) + k) dL_acts_277 rfl (by omega) (by decide) (fun H locs hP hS => ?_)
                    have hP : WP D cI cS ad (sR R1 88 ((5 * kw) + k) (nI (20 + ((vn / 24) % 131)))) F H := hP
                    refine lv_aload hx hb dL_acts_278 (lv_at hl 14 rfl) ?_
                    refine lv_iload hx hb dL_acts_280 (lv_at hl 1 rfl) ?_
                    refine lv_iload hx hb dL_acts_282 (lv_at hl 0 rfl) ?_
                    refine lv_iadd hx hb dL_acts_284 ?_
                    refine q_top (y := (nI ((5 * kw) + k))) (nI_add (5 * kw) k) ?_
                    refine lv_iload hx hb dL_acts_285 (lv_at hl 0 rfl) ?_
                    refine lv_if_ne (tgt := 294) hx hb dL_acts_287 (by decide) (fun c_287 => ?_) (fun c_287 => ?_)
                    · exact absurd c_246 c_287
                    · refine lv_iconst (v := -1) hx hb dL_acts_290 (by decide) ?_
                      refine lv_goto (tgt := 295) hx hb dL_acts_291 (by decide) ?_
                      refine q_istN hx hb hK hI hP hS 89 40 (ar_89) ((5 * kw) + k) dL_acts_295 rfl (by omega) (by decide) (fun H locs hP hS => ?_)
                      have hP : WP D cI cS ad (sR (sR R1 88 ((5 * kw) + k) (nI (20 + ((vn / 24) % 131)))) 89 ((5 * kw) + k) (-1 : Int32)) F H := hP
                      refine lv_iinc (v := (nI (k + 1))) (lv' := [(15, .int (nI (k + 1))), (14, .int (nI (5 * kw))), (13, .int (nI (20 + ((vn / 24) % 131)))), (12, .int (nI (20 + ((vn / 24) % 131)))), (11, .int (nI (vn % 24))), (10, .int (nI wy)), (9, .int (nI vn)), (0, .ref (ad 0)), (1, .ref (ad 83)), (2, .ref (ad 84)), (3, .ref (ad 85)), (4, .ref (ad 86)), (5, .ref (ad 87)), (6, .ref (ad 88)), (7, .ref (ad 89)), (8, .int p9)]) hx hb dL_acts_296 hl (k := 0) rfl (nI_1 k) (by decide) rfl (fun ls hl => ?_)
                      refine lv_goto (tgt := 231) hx hb dL_acts_299 (by decide) ?_
                      exact ih _ _ _ ⟨(k + 1), (sR (sR R1 88 ((5 * kw) + k) (nI (20 + ((vn / 24) % 131)))) 89 ((5 * kw) + k) (-1 : Int32)), by omega, by rw [← hsp, hL_acts_231_s, if_pos c_246], hP, hS, lv_sub hl [0, 1, 2, 3, 4, 5, 6, 7, 8, 9, 10, 11, 12, 13, 14, 15] rfl⟩
            · have n_197 : (kw) = (8) := (nI_eq (a := kw) (b := 8) (by omega) (by omega)).mp c_197
              refine lv_aload_n hx hb dL_acts_200 rfl (lv_at hl 5 rfl) ?_
              refine lv_iload hx hb dL_acts_201 (lv_at hl 1 rfl) ?_
              refine lv_iload hx hb dL_acts_203 (lv_at hl 0 rfl) ?_
              refine lv_iload hx hb dL_acts_205 (lv_at hl 2 rfl) ?_
              refine q_callI (va_runV (As := [.int (nI (20 + ((vn / 24) % 131))), .int (nI (20 + ((vn / 24) % 131))), .int (nI (vn % 24))]) (rest := []) ⟨hx, hb, hml, hown, hts⟩ (mX1_board l D cI cS ad hI R F (nI (20 + ((vn / 24) % 131))) (nI (20 + ((vn / 24) % 131))) (nI (vn % 24)) o q ho hq hF0 hF1) (cwV 3 hts gL_acts_X1_board rfl rfl rfl (by decide +kernel) ⟨Nat.le_of_ble_eq_true rfl, Nat.le_of_ble_eq_true rfl⟩) (PW_preV (i := 0) (by decide) CC_0 rfl rfl hK hP) rfl rfl hl.1 rfl (lv_room (Nat.le_of_ble_eq_true rfl)) dL_acts_207 ⟨Nat.zero_le _, Nat.zero_le _⟩) hS (fun H locs hP hS => ?_)
              refine lv_ldc (v := -100003) hx hb hown lk70 dL_acts_210 ?_
              refine lv_icmp_ne (tgt := 219) hx hb dL_acts_212 (by decide) (fun c_212 => ?_) (fun c_212 => ?_)
              · refine lv_iconst (v := 0) hx hb dL_acts_219 (by decide) ?_
                have hX : (xL_acts R F p9 vn wy kw o q) = ((0 : Int32), ((xX1_board R F (nI (20 + ((vn / 24) % 131))) (nI (20 + ((vn / 24) % 131))) (nI (vn % 24)) o q).2.1), ((xX1_board R F (nI (20 + ((vn / 24) % 131))) (nI (20 + ((vn / 24) % 131))) (nI (vn % 24)) o q).2.2)) := by unfold xL_acts; rw [if_neg c_29, if_neg c_76, if_neg c_116]; unfold cutL_acts_119; rw [if_neg c_137, if_pos c_168, if_pos c_197, if_neg c_212]
                exact W.zret (v := (0 : Int32)) hx hb hr rfl (fun t ht hW => ⟨by rw [hX], by rw [hX, ht]; with_reducible exact hP, hS.F ht⟩) hS.2.2 dL_acts_220
              · refine lv_iconst (v := 1) hx hb dL_acts_215 (by decide) ?_
                refine lv_goto (tgt := 220) hx hb dL_acts_216 (by decide) ?_
                have hX : (xL_acts R F p9 vn wy kw o q) = ((1 : Int32), ((xX1_board R F (nI (20 + ((vn / 24) % 131))) (nI (20 + ((vn / 24) % 131))) (nI (vn % 24)) o q).2.1), ((xX1_board R F (nI (20 + ((vn / 24) % 131))) (nI (20 + ((vn / 24) % 131))) (nI (vn % 24)) o q).2.2)) := by unfold xL_acts; rw [if_neg c_29, if_neg c_76, if_neg c_116]; unfold cutL_acts_119; rw [if_neg c_137, if_pos c_168, if_pos c_197, if_pos c_212]
                exact W.zret (v := (1 : Int32)) hx hb hr rfl (fun t ht hW => ⟨by rw [hX], by rw [hX, ht]; with_reducible exact hP, hS.F ht⟩) hS.2.2 dL_acts_220
          · refine lv_aload_n hx hb dL_acts_171 rfl (lv_at hl 5 rfl) ?_
            refine lv_iload hx hb dL_acts_172 (lv_at hl 1 rfl) ?_
            refine lv_iload hx hb dL_acts_174 (lv_at hl 0 rfl) ?_
            refine lv_iload hx hb dL_acts_176 (lv_at hl 2 rfl) ?_
            refine q_callI (va_runV (As := [.int (nI (20 + ((vn / 24) % 131))), .int (nI (20 + ((vn / 24) % 131))), .int (nI (vn % 24))]) (rest := []) ⟨hx, hb, hml, hown, hts⟩ (mX1_board l D cI cS ad hI R F (nI (20 + ((vn / 24) % 131))) (nI (20 + ((vn / 24) % 131))) (nI (vn % 24)) o q ho hq hF0 hF1) (cwV 3 hts gL_acts_X1_board rfl rfl rfl (by decide +kernel) ⟨Nat.le_of_ble_eq_true rfl, Nat.le_of_ble_eq_true rfl⟩) (PW_preV (i := 0) (by decide) CC_0 rfl rfl hK hP) rfl rfl hl.1 rfl (lv_room (Nat.le_of_ble_eq_true rfl)) dL_acts_178 ⟨Nat.zero_le _, Nat.zero_le _⟩) hS (fun H locs hP hS => ?_)
            refine lv_ldc (v := -100002) hx hb hown lk33 dL_acts_181 ?_
            refine lv_icmp_ne (tgt := 190) hx hb dL_acts_183 (by decide) (fun c_183 => ?_) (fun c_183 => ?_)
            · refine lv_iconst (v := 0) hx hb dL_acts_190 (by decide) ?_
              have hX : (xL_acts R F p9 vn wy kw o q) = ((0 : Int32), ((xX1_board R F (nI (20 + ((vn / 24) % 131))) (nI (20 + ((vn / 24) % 131))) (nI (vn % 24)) o q).2.1), ((xX1_board R F (nI (20 + ((vn / 24) % 131))) (nI (20 + ((vn / 24) % 131))) (nI (vn % 24)) o q).2.2)) := by unfold xL_acts; rw [if_neg c_29, if_neg c_76, if_neg c_116]; unfold cutL_acts_119; rw [if_neg c_137, if_neg c_168, if_neg c_183]
              exact W.zret (v := (0 : Int32)) hx hb hr rfl (fun t ht hW => ⟨by rw [hX], by rw [hX, ht]; with_reducible exact hP, hS.F ht⟩) hS.2.2 dL_acts_191
            · refine lv_iconst (v := 1) hx hb dL_acts_186 (by decide) ?_
              refine lv_goto (tgt := 191) hx hb dL_acts_187 (by decide) ?_
              have hX : (xL_acts R F p9 vn wy kw o q) = ((1 : Int32), ((xX1_board R F (nI (20 + ((vn / 24) % 131))) (nI (20 + ((vn / 24) % 131))) (nI (vn % 24)) o q).2.1), ((xX1_board R F (nI (20 + ((vn / 24) % 131))) (nI (20 + ((vn / 24) % 131))) (nI (vn % 24)) o q).2.2)) := by unfold xL_acts; rw [if_neg c_29, if_neg c_76, if_neg c_116]; unfold cutL_acts_119; rw [if_neg c_137, if_neg c_168, if_pos c_183]
              exact W.zret (v := (1 : Int32)) hx hb hr rfl (fun t ht hW => ⟨by rw [hX], by rw [hX, ht]; with_reducible exact hP, hS.F ht⟩) hS.2.2 dL_acts_191
        · have n_137 : ((vn % 4)) = (0) := (nI_eq (a := (vn % 4)) (b := 0) (by omega) (by omega)).mp c_137
          refine lv_bipush (v := 20) hx hb dL_acts_140 (by decide) ?_
          refine lv_iload hx hb dL_acts_142 (lv_at hl 3 rfl) ?_
          refine lv_bipush (v := 7) hx hb dL_acts_144 (by decide) ?_
          refine lv_idiv hx hb dL_acts_146 (by decide) ?_
          refine q_top (y := (nI (vn / 7))) (pk_div (a := vn) (d := 7) (by omega) (by omega) (by omega)) ?_
          refine lv_sipush (v := 131) hx hb dL_acts_147 (by decide) ?_
          refine lv_irem hx hb dL_acts_150 (by decide) ?_
          refine q_top (y := (nI ((vn / 7) % 131))) (pk_rem (a := (vn / 7)) (d := 131) (by omega) (by omega) (by omega)) ?_
          refine lv_iadd hx hb dL_acts_151 ?_
          refine q_top (y := (nI (20 + ((vn / 7) % 131)))) (nI_add 20 ((vn / 7) % 131)) ?_
          refine lv_goto (tgt := 157) hx hb dL_acts_152 (by decide) ?_
          refine lv_istore (lv' := [(13, .int (nI (20 + ((vn / 7) % 131)))), (12, .int (nI (20 + ((vn / 24) % 131)))), (11, .int (nI (vn % 24))), (10, .int (nI wy)), (9, .int (nI vn)), (0, .ref (ad 0)), (1, .ref (ad 83)), (2, .ref (ad 84)), (3, .ref (ad 85)), (4, .ref (ad 86)), (5, .ref (ad 87)), (6, .ref (ad 88)), (7, .ref (ad 89)), (8, .int p9)]) hx hb dL_acts_157 hl (by decide) rfl (fun ls hl => ?_)
          refine lv_aload_n hx hb dL_acts_159 rfl (lv_at hl 6 rfl) ?_
          refine lv_aload hx hb dL_acts_160 (lv_at hl 11 rfl) ?_
          refine lv_iload hx hb dL_acts_162 (lv_at hl 2 rfl) ?_
          refine lv_iconst (v := 1) hx hb dL_acts_164 (by decide) ?_
          refine q_callS (va_runS (As := [.ref (ad 83), .ref (ad 88), .int (nI (vn % 24)), .int (nI 1)]) (rest := []) ⟨hx, hb, hml, hown, hts⟩ (mL_who l D cI cS ad hI R F (nI (vn % 24)) 1 kw (by omega) hkw hW) (va_cwS 4 hts gL_acts_L_who rfl rfl rfl (by decide +kernel) ⟨Nat.le_of_ble_eq_true rfl, Nat.le_of_ble_eq_true rfl⟩) (PW_preS hK hP) rfl rfl hl.1 rfl (lv_room (Nat.le_of_ble_eq_true rfl)) dL_acts_165 ⟨Nat.zero_le _, Nat.zero_le _⟩) ?_
          refine lv_if_lt (tgt := 192) hx hb dL_acts_168 (by decide) (fun c_168 => ?_) (fun c_168 => ?_)
          · refine lv_aload_n hx hb dL_acts_192 rfl (lv_at hl 6 rfl) ?_
            refine lv_iconst (v := 1) hx hb dL_acts_193 (by decide) ?_
            refine q_ildN hx hb hK hP 83 6 (ar_83) 1 dL_acts_194 rfl (by omega) (by decide) ?_
            refine q_top (y := (nI kw)) hW ?_
            refine lv_bipush (v := 8) hx hb dL_acts_195 (by decide) ?_
            refine lv_icmp_ne (tgt := 221) hx hb dL_acts_197 (by decide) (fun c_197 => ?_) (fun c_197 => ?_)
            · have n_197 : ¬ (kw) = (8) := fun q => c_197 ((nI_eq (a := kw) (b := 8) (by omega) (by omega)).mpr q)
              refine lv_iconst (v := 5) hx hb dL_acts_221 (by decide) ?_
              refine lv_aload_n hx hb dL_acts_222 rfl (lv_at hl 6 rfl) ?_
              refine lv_iconst (v := 1) hx hb dL_acts_223 (by decide) ?_
              refine q_ildN hx hb hK hP 83 6 (ar_83) 1 dL_acts_224 rfl (by omega) (by decide) ?_
              refine q_top (y := (nI kw)) hW ?_
              refine lv_imul hx hb dL_acts_225 ?_
              refine q_top (y := (nI (5 * kw))) (pk_mul 5 kw) ?_
              refine lv_istore (lv' := [(14, .int (nI (5 * kw))), (13, .int (nI (20 + ((vn / 7) % 131)))), (12, .int (nI (20 + ((vn / 24) % 131)))), (11, .int (nI (vn % 24))), (10, .int (nI wy)), (9, .int (nI vn)), (0, .ref (ad 0)), (1, .ref (ad 83)), (2, .ref (ad 84)), (3, .ref (ad 85)), (4, .ref (ad 86)), (5, .ref (ad 87)), (6, .ref (ad 88)), (7, .ref (ad 89)), (8, .int p9)]) hx hb dL_acts_226 hl (by decide) rfl (fun ls hl => ?_)
              refine lv_iconst (v := 0) hx hb dL_acts_228 (by decide) ?_
              refine lv_istore (lv' := [(15, .int (0 : Int32)), (14, .int (nI (5 * kw))), (13, .int (nI (20 + ((vn / 7) % 131)))), (12, .int (nI (20 + ((vn / 24) % 131)))), (11, .int (nI (vn % 24))), (10, .int (nI wy)), (9, .int (nI vn)), (0, .ref (ad 0)), (1, .ref (ad 83)), (2, .ref (ad 84)), (3, .ref (ad 85)), (4, .ref (ad 86)), (5, .ref (ad 87)), (6, .ref (ad 88)), (7, .ref (ad 89)), (8, .int p9)]) hx hb dL_acts_229 hl (by decide) rfl (fun ls hl => ?_)
              refine q_loop (fun nn H locs ls => ∃ (k : Nat) (R1 : Nat → Nat → Int32), k + nn = 5 ∧ hL_acts_231b R F p9 vn wy kw o q nn k R1 = (xL_acts R F p9 vn wy kw o q) ∧ WP D cI cS ad R1 F H ∧ va_S (AA ad) s.heap H locs ∧ lv_has ls 16 [(15, .int (nI k)), (14, .int (nI (5 * kw))), (13, .int (nI (20 + ((vn / 7) % 131)))), (12, .int (nI (20 + ((vn / 24) % 131)))), (11, .int (nI (vn % 24))), (10, .int (nI wy)), (9, .int (nI vn)), (0, .ref (ad 0)), (1, .ref (ad 83)), (2, .ref (ad 84)), (3, .ref (ad 85)), (4, .ref (ad 86)), (5, .ref (ad 87)), (6, .ref (ad 88)), (7, .ref (ad 89)), (8, .int p9)]) 5 ⟨0, R, by omega, by unfold xL_acts; rw [if_neg c_29, if_neg c_76, if_neg c_116]; unfold cutL_acts_119; rw [if_pos c_137, if_pos c_168, if_neg c_197], hP, hS, lv_sub hl [0, 1, 2, 3, 4, 5, 6, 7, 8, 9, 10, 11, 12, 13, 14, 15] rfl⟩ ?_ ?_
              · intro H locs ls hz
                obtain ⟨k, R1, hkn, hsp, hP, hS, hl⟩ := hz
                refine lv_iload hx hb dL_acts_231 (lv_at hl 0 rfl) ?_
                refine lv_iconst (v := 5) hx hb dL_acts_233 (by decide) ?_
                refine lv_icmp_ge (tgt := 302) hx hb dL_acts_234 (by decide) (fun c_234 => ?_) (fun c_234 => ?_)
                · refine lv_aload_n hx hb dL_acts_302 rfl (lv_at hl 8 rfl) ?_
                  refine lv_iconst (v := 1) hx hb dL_acts_303 (by decide) ?_
                  refine lv_dup2_11 hx hb dL_acts_304 rfl rfl ?_
                  refine q_ildN hx hb hK hP 83 6 (ar_83) 1 dL_acts_305 rfl (by omega) (by decide) ?_
                  refine lv_iconst (v := 1) hx hb dL_acts_306 (by decide) ?_
                  refine lv_iadd hx hb dL_acts_307 ?_
                  refine q_istN hx hb hK hI hP hS 83 6 (ar_83) 1 dL_acts_308 rfl (by omega) (by decide) (fun H locs hP hS => ?_)
                  have hP : WP D cI cS ad (sR R1 83 1 ((R1 83 1) + (1 : Int32))) F H := hP
                  refine lv_aload_n hx hb dL_acts_309 rfl (lv_at hl 7 rfl) ?_
                  refine lv_iload hx hb dL_acts_310 (lv_at hl 3 rfl) ?_
                  refine lv_iload hx hb dL_acts_312 (lv_at hl 2 rfl) ?_
                  refine lv_iload hx hb dL_acts_314 (lv_at hl 4 rfl) ?_
                  refine q_callI (va_runV (As := [.int (nI (20 + ((vn / 24) % 131))), .int (nI (20 + ((vn / 7) % 131))), .int (nI (vn % 24))]) (rest := []) ⟨hx, hb, hml, hown, hts⟩ (mX1_board l D cI cS ad hI (sR R1 83 1 ((R1 83 1) + (1 : Int32))) F (nI (20 + ((vn / 24) % 131))) (nI (20 + ((vn / 7) % 131))) (nI (vn % 24)) o q ho hq hF0 hF1) (cwV 3 hts gL_acts_X1_board rfl rfl rfl (by decide +kernel) ⟨Nat.le_of_ble_eq_true rfl, Nat.le_of_ble_eq_true rfl⟩) (PW_preV (i := 0) (by decide) CC_0 rfl rfl hK hP) rfl rfl hl.1 rfl (lv_room (Nat.le_of_ble_eq_true rfl)) dL_acts_316 ⟨Nat.zero_le _, Nat.zero_le _⟩) hS (fun H locs hP hS => ?_)
                  refine lv_aload_n hx hb dL_acts_319 rfl (lv_at hl 8 rfl) ?_
                  refine lv_iconst (v := 1) hx hb dL_acts_320 (by decide) ?_
                  refine q_ildN hx hb hK hP 83 6 (ar_83) 1 dL_acts_321 rfl (by omega) (by decide) ?_
                  refine lv_iconst (v := 1) hx hb dL_acts_322 (by decide) ?_
                  refine lv_isub hx hb dL_acts_323 ?_
                  refine lv_icmp_ne (tgt := 331) hx hb dL_acts_324 (by decide) (fun c_324 => ?_) (fun c_324 => ?_)
                  · refine lv_iconst (v := 0) hx hb dL_acts_331 (by decide) ?_
                    have hX : (xL_acts R F p9 vn wy kw o q) = ((0 : Int32), ((xX1_board (sR R1 83 1 ((R1 83 1) + (1 : Int32))) F (nI (20 + ((vn / 24) % 131))) (nI (20 + ((vn / 7) % 131))) (nI (vn % 24)) o q).2.1), ((xX1_board (sR R1 83 1 ((R1 83 1) + (1 : Int32))) F (nI (20 + ((vn / 24) % 131))) (nI (20 + ((vn / 7) % 131))) (nI (vn % 24)) o q).2.2)) := by rw [← hsp, hL_acts_231b_z, if_neg c_324]
                    exact W.zret (v := (0 : Int32)) hx hb hr rfl (fun t ht hW => ⟨by rw [hX], by rw [hX, ht]; with_reducible exact hP, hS.F ht⟩) hS.2.2 dL_acts_332
                  · refine lv_iconst (v := 1) hx hb dL_acts_327 (by decide) ?_
                    refine lv_goto (tgt := 332) hx hb dL_acts_328 (by decide) ?_
                    have hX : (xL_acts R F p9 vn wy kw o q) = ((1 : Int32), ((xX1_board (sR R1 83 1 ((R1 83 1) + (1 : Int32))) F (nI (20 + ((vn / 24) % 131))) (nI (20 + ((vn / 7) % 131))) (nI (vn % 24)) o q).2.1), ((xX1_board (sR R1 83 1 ((R1 83 1) + (1 : Int32))) F (nI (20 + ((vn / 24) % 131))) (nI (20 + ((vn / 7) % 131))) (nI (vn % 24)) o q).2.2)) := by rw [← hsp, hL_acts_231b_z, if_pos c_324]
                    exact W.zret (v := (1 : Int32)) hx hb hr rfl (fun t ht hW => ⟨by rw [hX], by rw [hX, ht]; with_reducible exact hP, hS.F ht⟩) hS.2.2 dL_acts_332
                · exact absurd (nI_le (a := 5) (b := k) (by omega) (by omega)) c_234
              · intro n ih H locs ls hz
                obtain ⟨k, R1, hkn, hsp, hP, hS, hl⟩ := hz
                refine lv_iload hx hb dL_acts_231 (lv_at hl 0 rfl) ?_
                refine lv_iconst (v := 5) hx hb dL_acts_233 (by decide) ?_
                refine lv_icmp_ge (tgt := 302) hx hb dL_acts_234 (by decide) (fun c_234 => ?_) (fun c_234 => ?_)
                · exact absurd c_234 (nI_ge (a := k) (b := 5) (by omega) (by omega))
                · refine lv_aload hx hb dL_acts_237 (lv_at hl 13 rfl) ?_
                  refine lv_iload hx hb dL_acts_239 (lv_at hl 1 rfl) ?_
                  refine lv_iload hx hb dL_acts_241 (lv_at hl 0 rfl) ?_
                  refine lv_iadd hx hb dL_acts_243 ?_
                  refine q_top (y := (nI ((5 * kw) + k))) (nI_add (5 * kw) k) ?_
                  refine lv_iload hx hb dL_acts_244 (lv_at hl 0 rfl) ?_
                  refine lv_if_ne (tgt := 254) hx hb dL_acts_246 (by decide) (fun c_246 => ?_) (fun c_246 => ?_)
                  · have n_246 : ¬ (k) = (0) := fun q => c_246 ((nI_eq (a := k) (b := 0) (by omega) (by omega)).mpr q)
                    refine lv_iload hx hb dL_acts_254 (lv_at hl 0 rfl) ?_
                    refine lv_iconst (v := 2) hx hb dL_acts_256 (by decide) ?_
                    refine lv_icmp_ne (tgt := 265) hx hb dL_acts_257 (by decide) (fun c_257 => ?_) (fun c_257 => ?_)
                    · have n_257 : ¬ (k) = (2) := fun q => c_257 ((nI_eq (a := k) (b := 2) (by omega) (by omega)).mpr q)
                      refine lv_iload hx hb dL_acts_265 (lv_at hl 0 rfl) ?_
                      refine lv_iconst (v := 4) hx hb dL_acts_267 (by decide) ?_
                      refine lv_icmp_ne (tgt := 275) hx hb dL_acts_268 (by decide) (fun c_268 => ?_) (fun c_268 => ?_)
                      · have n_268 : ¬ (k) = (4) := fun q => c_268 ((nI_eq (a := k) (b := 4) (by omega) (by omega)).mpr q)
                        refine lv_iload hx hb dL_acts_275 (lv_at hl 4 rfl) ?_
                        refine q_istN hx hb hK hI hP hS 88 40 (ar_88) ((5 * kw) + k) dL_acts_277 rfl (by omega) (by decide) (fun H locs hP hS => ?_)
                        have hP : WP D cI cS ad (sR R1 88 ((5 * kw) + k) (nI (vn % 24))) F H := hP
                        refine lv_aload hx hb dL_acts_278 (lv_at hl 14 rfl) ?_
                        refine lv_iload hx hb dL_acts_280 (lv_at hl 1 rfl) ?_
                        refine lv_iload hx hb dL_acts_282 (lv_at hl 0 rfl) ?_
                        refine lv_iadd hx hb dL_acts_284 ?_
                        refine q_top (y := (nI ((5 * kw) + k))) (nI_add (5 * kw) k) ?_
                        refine lv_iload hx hb dL_acts_285 (lv_at hl 0 rfl) ?_
                        refine lv_if_ne (tgt := 294) hx hb dL_acts_287 (by decide) (fun c_287 => ?_) (fun c_287 => ?_)
                        · refine lv_iconst (v := 0) hx hb dL_acts_294 (by decide) ?_
                          refine q_istN hx hb hK hI hP hS 89 40 (ar_89) ((5 * kw) + k) dL_acts_295 rfl (by omega) (by decide) (fun H locs hP hS => ?_)
                          have hP : WP D cI cS ad (sR (sR R1 88 ((5 * kw) + k) (nI (vn % 24))) 89 ((5 * kw) + k) (0 : Int32)) F H := hP
                          refine lv_iinc (v := (nI (k + 1))) (lv' := [(15, .int (nI (k + 1))), (14, .int (nI (5 * kw))), (13, .int (nI (20 + ((vn / 7) % 131)))), (12, .int (nI (20 + ((vn / 24) % 131)))), (11, .int (nI (vn % 24))), (10, .int (nI wy)), (9, .int (nI vn)), (0, .ref (ad 0)), (1, .ref (ad 83)), (2, .ref (ad 84)), (3, .ref (ad 85)), (4, .ref (ad 86)), (5, .ref (ad 87)), (6, .ref (ad 88)), (7, .ref (ad 89)), (8, .int p9)]) hx hb dL_acts_296 hl (k := 0) rfl (nI_1 k) (by decide) rfl (fun ls hl => ?_)
                          refine lv_goto (tgt := 231) hx hb dL_acts_299 (by decide) ?_
                          exact ih _ _ _ ⟨(k + 1), (sR (sR R1 88 ((5 * kw) + k) (nI (vn % 24))) 89 ((5 * kw) + k) (0 : Int32)), by omega, by rw [← hsp, hL_acts_231b_s, if_neg c_246, if_neg c_257, if_neg c_268], hP, hS, lv_sub hl [0, 1, 2, 3, 4, 5, 6, 7, 8, 9, 10, 11, 12, 13, 14, 15] rfl⟩
                        · exact absurd c_287 c_246
                      · have n_268 : (k) = (4) := (nI_eq (a := k) (b := 4) (by omega) (by omega)).mp c_268
                        refine lv_iconst (v := 0) hx hb dL_acts_271 (by decide) ?_
                        refine lv_goto (tgt := 277) hx hb dL_acts_272 (by decide) ?_
                        refine q_istN hx hb hK hI hP hS 88 40 (ar_88) ((5 * kw) + k) dL_acts_277 rfl (by omega) (by decide) (fun H locs hP hS => ?_)
                        have hP : WP D cI cS ad (sR R1 88 ((5 * kw) + k) (0 : Int32)) F H := hP
                        refine lv_aload hx hb dL_acts_278 (lv_at hl 14 rfl) ?_
                        refine lv_iload hx hb dL_acts_280 (lv_at hl 1 rfl) ?_
                        refine lv_iload hx hb dL_acts_282 (lv_at hl 0 rfl) ?_
                        refine lv_iadd hx hb dL_acts_284 ?_
                        refine q_top (y := (nI ((5 * kw) + k))) (nI_add (5 * kw) k) ?_
                        refine lv_iload hx hb dL_acts_285 (lv_at hl 0 rfl) ?_
                        refine lv_if_ne (tgt := 294) hx hb dL_acts_287 (by decide) (fun c_287 => ?_) (fun c_287 => ?_)
                        · refine lv_iconst (v := 0) hx hb dL_acts_294 (by decide) ?_
                          refine q_istN hx hb hK hI hP hS 89 40 (ar_89) ((5 * kw) + k) dL_acts_295 rfl (by omega) (by decide) (fun H locs hP hS => ?_)
                          have hP : WP D cI cS ad (sR (sR R1 88 ((5 * kw) + k) (0 : Int32)) 89 ((5 * kw) + k) (0 : Int32)) F H := hP
                          refine lv_iinc (v := (nI (k + 1))) (lv' := [(15, .int (nI (k + 1))), (14, .int (nI (5 * kw))), (13, .int (nI (20 + ((vn / 7) % 131)))), (12, .int (nI (20 + ((vn / 24) % 131)))), (11, .int (nI (vn % 24))), (10, .int (nI wy)), (9, .int (nI vn)), (0, .ref (ad 0)), (1, .ref (ad 83)), (2, .ref (ad 84)), (3, .ref (ad 85)), (4, .ref (ad 86)), (5, .ref (ad 87)), (6, .ref (ad 88)), (7, .ref (ad 89)), (8, .int p9)]) hx hb dL_acts_296 hl (k := 0) rfl (nI_1 k) (by decide) rfl (fun ls hl => ?_)
                          refine lv_goto (tgt := 231) hx hb dL_acts_299 (by decide) ?_
                          exact ih _ _ _ ⟨(k + 1), (sR (sR R1 88 ((5 * kw) + k) (0 : Int32)) 89 ((5 * kw) + k) (0 : Int32)), by omega, by rw [← hsp, hL_acts_231b_s, if_neg c_246, if_neg c_257, if_pos c_268], hP, hS, lv_sub hl [0, 1, 2, 3, 4, 5, 6, 7, 8, 9, 10, 11, 12, 13, 14, 15] rfl⟩
                        · exact absurd c_287 c_246
                    · have n_257 : (k) = (2) := (nI_eq (a := k) (b := 2) (by omega) (by omega)).mp c_257
                      refine lv_iload hx hb dL_acts_260 (lv_at hl 2 rfl) ?_
                      refine lv_goto (tgt := 277) hx hb dL_acts_262 (by decide) ?_
                      refine q_istN hx hb hK hI hP hS 88 40 (ar_88) ((5 * kw) + k) dL_acts_277 rfl (by omega) (by decide) (fun H locs hP hS => ?_)
                      have hP : WP D cI cS ad (sR R1 88 ((5 * kw) + k) (nI (20 + ((vn / 7) % 131)))) F H := hP
                      refine lv_aload hx hb dL_acts_278 (lv_at hl 14 rfl) ?_
                      refine lv_iload hx hb dL_acts_280 (lv_at hl 1 rfl) ?_
                      refine lv_iload hx hb dL_acts_282 (lv_at hl 0 rfl) ?_
                      refine lv_iadd hx hb dL_acts_284 ?_
                      refine q_top (y := (nI ((5 * kw) + k))) (nI_add (5 * kw) k) ?_
                      refine lv_iload hx hb dL_acts_285 (lv_at hl 0 rfl) ?_
                      refine lv_if_ne (tgt := 294) hx hb dL_acts_287 (by decide) (fun c_287 => ?_) (fun c_287 => ?_)
                      · refine lv_iconst (v := 0) hx hb dL_acts_294 (by decide) ?_
                        refine q_istN hx hb hK hI hP hS 89 40 (ar_89) ((5 * kw) + k) dL_acts_295 rfl (by omega) (by decide) (fun H locs hP hS => ?_)
                        have hP : WP D cI cS ad (sR (sR R1 88 ((5 * kw) + k) (nI (20 + ((vn / 7) % 131)))) 89 ((5 * kw) + k) (0 : Int32)) F H := hP
                        refine lv_iinc (v := (nI (k + 1))) (lv' := [(15, .int (nI (k + 1))), (14, .int (nI (5 * kw))), (13, .int (nI (20 + ((vn / 7) % 131)))), (12, .int (nI (20 + ((vn / 24) % 131)))), (11, .int (nI (vn % 24))), (10, .int (nI wy)), (9, .int (nI vn)), (0, .ref (ad 0)), (1, .ref (ad 83)), (2, .ref (ad 84)), (3, .ref (ad 85)), (4, .ref (ad 86)), (5, .ref (ad 87)), (6, .ref (ad 88)), (7, .ref (ad 89)), (8, .int p9)]) hx hb dL_acts_296 hl (k := 0) rfl (nI_1 k) (by decide) rfl (fun ls hl => ?_)
                        refine lv_goto (tgt := 231) hx hb dL_acts_299 (by decide) ?_
                        exact ih _ _ _ ⟨(k + 1), (sR (sR R1 88 ((5 * kw) + k) (nI (20 + ((vn / 7) % 131)))) 89 ((5 * kw) + k) (0 : Int32)), by omega, by rw [← hsp, hL_acts_231b_s, if_neg c_246, if_pos c_257], hP, hS, lv_sub hl [0, 1, 2, 3, 4, 5, 6, 7, 8, 9, 10, 11, 12, 13, 14, 15] rfl⟩
                      · exact absurd c_287 c_246
                  · have n_246 : (k) = (0) := (nI_eq (a := k) (b := 0) (by omega) (by omega)).mp c_246
                    refine lv_iload hx hb dL_acts_249 (lv_at hl 3 rfl) ?_
                    refine lv_goto (tgt := 277) hx hb dL_acts_251 (by decide) ?_
                    refine q_istN hx hb hK hI hP hS 88 40 (ar_88) ((5 * kw) + k) dL_acts_277 rfl (by omega) (by decide) (fun H locs hP hS => ?_)
                    have hP : WP D cI cS ad (sR R1 88 ((5 * kw) + k) (nI (20 + ((vn / 24) % 131)))) F H := hP
                    refine lv_aload hx hb dL_acts_278 (lv_at hl 14 rfl) ?_
                    refine lv_iload hx hb dL_acts_280 (lv_at hl 1 rfl) ?_
                    refine lv_iload hx hb dL_acts_282 (lv_at hl 0 rfl) ?_
                    refine lv_iadd hx hb dL_acts_284 ?_
                    refine q_top (y := (nI ((5 * kw) + k))) (nI_add (5 * kw) k) ?_
                    refine lv_iload hx hb dL_acts_285 (lv_at hl 0 rfl) ?_
                    refine lv_if_ne (tgt := 294) hx hb dL_acts_287 (by decide) (fun c_287 => ?_) (fun c_287 => ?_)
                    · exact absurd c_246 c_287
                    · refine lv_iconst (v := -1) hx hb dL_acts_290 (by decide) ?_
                      refine lv_goto (tgt := 295) hx hb dL_acts_291 (by decide) ?_
                      refine q_istN hx hb hK hI hP hS 89 40 (ar_89) ((5 * kw) + k) dL_acts_295 rfl (by omega) (by decide) (fun H locs hP hS => ?_)
                      have hP : WP D cI cS ad (sR (sR R1 88 ((5 * kw) + k) (nI (20 + ((vn / 24) % 131)))) 89 ((5 * kw) + k) (-1 : Int32)) F H := hP
                      refine lv_iinc (v := (nI (k + 1))) (lv' := [(15, .int (nI (k + 1))), (14, .int (nI (5 * kw))), (13, .int (nI (20 + ((vn / 7) % 131)))), (12, .int (nI (20 + ((vn / 24) % 131)))), (11, .int (nI (vn % 24))), (10, .int (nI wy)), (9, .int (nI vn)), (0, .ref (ad 0)), (1, .ref (ad 83)), (2, .ref (ad 84)), (3, .ref (ad 85)), (4, .ref (ad 86)), (5, .ref (ad 87)), (6, .ref (ad 88)), (7, .ref (ad 89)), (8, .int p9)]) hx hb dL_acts_296 hl (k := 0) rfl (nI_1 k) (by decide) rfl (fun ls hl => ?_)
                      refine lv_goto (tgt := 231) hx hb dL_acts_299 (by decide) ?_
                      exact ih _ _ _ ⟨(k + 1), (sR (sR R1 88 ((5 * kw) + k) (nI (20 + ((vn / 24) % 131)))) 89 ((5 * kw) + k) (-1 : Int32)), by omega, by rw [← hsp, hL_acts_231b_s, if_pos c_246], hP, hS, lv_sub hl [0, 1, 2, 3, 4, 5, 6, 7, 8, 9, 10, 11, 12, 13, 14, 15] rfl⟩
            · have n_197 : (kw) = (8) := (nI_eq (a := kw) (b := 8) (by omega) (by omega)).mp c_197
              refine lv_aload_n hx hb dL_acts_200 rfl (lv_at hl 5 rfl) ?_
              refine lv_iload hx hb dL_acts_201 (lv_at hl 1 rfl) ?_
              refine lv_iload hx hb dL_acts_203 (lv_at hl 0 rfl) ?_
              refine lv_iload hx hb dL_acts_205 (lv_at hl 2 rfl) ?_
              refine q_callI (va_runV (As := [.int (nI (20 + ((vn / 24) % 131))), .int (nI (20 + ((vn / 7) % 131))), .int (nI (vn % 24))]) (rest := []) ⟨hx, hb, hml, hown, hts⟩ (mX1_board l D cI cS ad hI R F (nI (20 + ((vn / 24) % 131))) (nI (20 + ((vn / 7) % 131))) (nI (vn % 24)) o q ho hq hF0 hF1) (cwV 3 hts gL_acts_X1_board rfl rfl rfl (by decide +kernel) ⟨Nat.le_of_ble_eq_true rfl, Nat.le_of_ble_eq_true rfl⟩) (PW_preV (i := 0) (by decide) CC_0 rfl rfl hK hP) rfl rfl hl.1 rfl (lv_room (Nat.le_of_ble_eq_true rfl)) dL_acts_207 ⟨Nat.zero_le _, Nat.zero_le _⟩) hS (fun H locs hP hS => ?_)
              refine lv_ldc (v := -100003) hx hb hown lk70 dL_acts_210 ?_
              refine lv_icmp_ne (tgt := 219) hx hb dL_acts_212 (by decide) (fun c_212 => ?_) (fun c_212 => ?_)
              · refine lv_iconst (v := 0) hx hb dL_acts_219 (by decide) ?_
                have hX : (xL_acts R F p9 vn wy kw o q) = ((0 : Int32), ((xX1_board R F (nI (20 + ((vn / 24) % 131))) (nI (20 + ((vn / 7) % 131))) (nI (vn % 24)) o q).2.1), ((xX1_board R F (nI (20 + ((vn / 24) % 131))) (nI (20 + ((vn / 7) % 131))) (nI (vn % 24)) o q).2.2)) := by unfold xL_acts; rw [if_neg c_29, if_neg c_76, if_neg c_116]; unfold cutL_acts_119; rw [if_pos c_137, if_pos c_168, if_pos c_197, if_neg c_212]
                exact W.zret (v := (0 : Int32)) hx hb hr rfl (fun t ht hW => ⟨by rw [hX], by rw [hX, ht]; with_reducible exact hP, hS.F ht⟩) hS.2.2 dL_acts_220
              · refine lv_iconst (v := 1) hx hb dL_acts_215 (by decide) ?_
                refine lv_goto (tgt := 220) hx hb dL_acts_216 (by decide) ?_
                have hX : (xL_acts R F p9 vn wy kw o q) = ((1 : Int32), ((xX1_board R F (nI (20 + ((vn / 24) % 131))) (nI (20 + ((vn / 7) % 131))) (nI (vn % 24)) o q).2.1), ((xX1_board R F (nI (20 + ((vn / 24) % 131))) (nI (20 + ((vn / 7) % 131))) (nI (vn % 24)) o q).2.2)) := by unfold xL_acts; rw [if_neg c_29, if_neg c_76, if_neg c_116]; unfold cutL_acts_119; rw [if_pos c_137, if_pos c_168, if_pos c_197, if_pos c_212]
                exact W.zret (v := (1 : Int32)) hx hb hr rfl (fun t ht hW => ⟨by rw [hX], by rw [hX, ht]; with_reducible exact hP, hS.F ht⟩) hS.2.2 dL_acts_220
          · refine lv_aload_n hx hb dL_acts_171 rfl (lv_at hl 5 rfl) ?_
            refine lv_iload hx hb dL_acts_172 (lv_at hl 1 rfl) ?_
            refine lv_iload hx hb dL_acts_174 (lv_at hl 0 rfl) ?_
            refine lv_iload hx hb dL_acts_176 (lv_at hl 2 rfl) ?_
            refine q_callI (va_runV (As := [.int (nI (20 + ((vn / 24) % 131))), .int (nI (20 + ((vn / 7) % 131))), .int (nI (vn % 24))]) (rest := []) ⟨hx, hb, hml, hown, hts⟩ (mX1_board l D cI cS ad hI R F (nI (20 + ((vn / 24) % 131))) (nI (20 + ((vn / 7) % 131))) (nI (vn % 24)) o q ho hq hF0 hF1) (cwV 3 hts gL_acts_X1_board rfl rfl rfl (by decide +kernel) ⟨Nat.le_of_ble_eq_true rfl, Nat.le_of_ble_eq_true rfl⟩) (PW_preV (i := 0) (by decide) CC_0 rfl rfl hK hP) rfl rfl hl.1 rfl (lv_room (Nat.le_of_ble_eq_true rfl)) dL_acts_178 ⟨Nat.zero_le _, Nat.zero_le _⟩) hS (fun H locs hP hS => ?_)
            refine lv_ldc (v := -100002) hx hb hown lk33 dL_acts_181 ?_
            refine lv_icmp_ne (tgt := 190) hx hb dL_acts_183 (by decide) (fun c_183 => ?_) (fun c_183 => ?_)
            · refine lv_iconst (v := 0) hx hb dL_acts_190 (by decide) ?_
              have hX : (xL_acts R F p9 vn wy kw o q) = ((0 : Int32), ((xX1_board R F (nI (20 + ((vn / 24) % 131))) (nI (20 + ((vn / 7) % 131))) (nI (vn % 24)) o q).2.1), ((xX1_board R F (nI (20 + ((vn / 24) % 131))) (nI (20 + ((vn / 7) % 131))) (nI (vn % 24)) o q).2.2)) := by unfold xL_acts; rw [if_neg c_29, if_neg c_76, if_neg c_116]; unfold cutL_acts_119; rw [if_pos c_137, if_neg c_168, if_neg c_183]
              exact W.zret (v := (0 : Int32)) hx hb hr rfl (fun t ht hW => ⟨by rw [hX], by rw [hX, ht]; with_reducible exact hP, hS.F ht⟩) hS.2.2 dL_acts_191
            · refine lv_iconst (v := 1) hx hb dL_acts_186 (by decide) ?_
              refine lv_goto (tgt := 191) hx hb dL_acts_187 (by decide) ?_
              have hX : (xL_acts R F p9 vn wy kw o q) = ((1 : Int32), ((xX1_board R F (nI (20 + ((vn / 24) % 131))) (nI (20 + ((vn / 7) % 131))) (nI (vn % 24)) o q).2.1), ((xX1_board R F (nI (20 + ((vn / 24) % 131))) (nI (20 + ((vn / 7) % 131))) (nI (vn % 24)) o q).2.2)) := by unfold xL_acts; rw [if_neg c_29, if_neg c_76, if_neg c_116]; unfold cutL_acts_119; rw [if_pos c_137, if_neg c_168, if_pos c_183]
              exact W.zret (v := (1 : Int32)) hx hb hr rfl (fun t ht hW => ⟨by rw [hX], by rw [hX, ht]; with_reducible exact hP, hS.F ht⟩) hS.2.2 dL_acts_191
    · have n_76 : (wy) = (1) := (nI_eq (a := wy) (b := 1) (by omega) (by omega)).mp c_76
      refine lv_aload_n hx hb dL_acts_79 rfl (lv_at hl 4 rfl) ?_
      refine lv_iconst (v := 2) hx hb dL_acts_80 (by decide) ?_
      refine q_ildN hx hb hK hP 83 6 (ar_83) 2 dL_acts_81 rfl (by omega) (by decide) ?_
      refine lv_istore (lv' := [(12, .int (R 83 2)), (11, .int (nI (vn % 24))), (10, .int (nI wy)), (9, .int (nI vn)), (0, .ref (ad 0)), (1, .ref (ad 83)), (2, .ref (ad 84)), (3, .ref (ad 85)), (4, .ref (ad 86)), (5, .ref (ad 87)), (6, .ref (ad 88)), (7, .ref (ad 89)), (8, .int p9)]) hx hb dL_acts_82 hl (by decide) rfl (fun ls hl => ?_)
      refine lv_aload_n hx hb dL_acts_84 rfl (lv_at hl 5 rfl) ?_
      refine lv_iconst (v := 2) hx hb dL_acts_85 (by decide) ?_
      refine lv_iload hx hb dL_acts_86 (lv_at hl 3 rfl) ?_
      refine lv_bipush (v := 101) hx hb dL_acts_88 (by decide) ?_
      refine lv_irem hx hb dL_acts_90 (by decide) ?_
      refine q_top (y := (nI (vn % 101))) (pk_rem (a := vn) (d := 101) (by omega) (by omega) (by omega)) ?_
      refine q_istN hx hb hK hI hP hS 83 6 (ar_83) 2 dL_acts_91 rfl (by omega) (by decide) (fun H locs hP hS => ?_)
      have hP : WP D cI cS ad (sR R 83 2 (nI (vn % 101))) F H := hP
      refine lv_aload_n hx hb dL_acts_92 rfl (lv_at hl 4 rfl) ?_
      refine lv_iload hx hb dL_acts_93 (lv_at hl 3 rfl) ?_
      refine lv_bipush (v := 101) hx hb dL_acts_95 (by decide) ?_
      refine lv_irem hx hb dL_acts_97 (by decide) ?_
      refine q_top (y := (nI (vn % 101))) (pk_rem (a := vn) (d := 101) (by omega) (by omega) (by omega)) ?_
      refine q_callI (va_runV (As := [.int (nI (vn % 101))]) (rest := []) ⟨hx, hb, hml, hown, hts⟩ (mX1_setPrice l D cI cS ad hI (sR R 83 2 (nI (vn % 101))) F (nI (vn % 101)) o q ho hq hF0 hF1) (cwV 1 hts gL_acts_X1_setPrice rfl rfl rfl (by decide +kernel) ⟨Nat.le_of_ble_eq_true rfl, Nat.le_of_ble_eq_true rfl⟩) (PW_preV (i := 0) (by decide) CC_0 rfl rfl hK hP) rfl rfl hl.1 rfl (lv_room (Nat.le_of_ble_eq_true rfl)) dL_acts_98 ⟨Nat.zero_le _, Nat.zero_le _⟩) hS (fun H locs hP hS => ?_)
      refine lv_iload hx hb dL_acts_101 (lv_at hl 0 rfl) ?_
      refine lv_icmp_ne (tgt := 110) hx hb dL_acts_103 (by decide) (fun c_103 => ?_) (fun c_103 => ?_)
      · refine lv_iconst (v := 0) hx hb dL_acts_110 (by decide) ?_
        have hX : (xL_acts R F p9 vn wy kw o q) = ((0 : Int32), ((xX1_setPrice (sR R 83 2 (nI (vn % 101))) F (nI (vn % 101)) o q).2.1), ((xX1_setPrice (sR R 83 2 (nI (vn % 101))) F (nI (vn % 101)) o q).2.2)) := by unfold xL_acts; rw [if_neg c_29, if_pos c_76]; unfold cutL_acts_79; rw [if_neg c_103]
        exact W.zret (v := (0 : Int32)) hx hb hr rfl (fun t ht hW => ⟨by rw [hX], by rw [hX, ht]; with_reducible exact hP, hS.F ht⟩) hS.2.2 dL_acts_111
      · refine lv_iconst (v := 1) hx hb dL_acts_106 (by decide) ?_
        refine lv_goto (tgt := 111) hx hb dL_acts_107 (by decide) ?_
        have hX : (xL_acts R F p9 vn wy kw o q) = ((1 : Int32), ((xX1_setPrice (sR R 83 2 (nI (vn % 101))) F (nI (vn % 101)) o q).2.1), ((xX1_setPrice (sR R 83 2 (nI (vn % 101))) F (nI (vn % 101)) o q).2.2)) := by unfold xL_acts; rw [if_neg c_29, if_pos c_76]; unfold cutL_acts_79; rw [if_pos c_103]
        exact W.zret (v := (1 : Int32)) hx hb hr rfl (fun t ht hW => ⟨by rw [hX], by rw [hX, ht]; with_reducible exact hP, hS.F ht⟩) hS.2.2 dL_acts_111
  · have n_29 : (wy) = (0) := (nI_eq (a := wy) (b := 0) (by omega) (by omega)).mp c_29
    refine lv_aload_n hx hb dL_acts_32 rfl (lv_at hl 6 rfl) ?_
    refine lv_iload hx hb dL_acts_33 (lv_at hl 0 rfl) ?_
    refine q_ildN hx hb hK hP 85 24 (ar_85) (vn % 24) dL_acts_35 rfl (by omega) (by decide) ?_
    refine lv_istore (lv' := [(12, .int (R 85 (vn % 24))), (11, .int (nI (vn % 24))), (10, .int (nI wy)), (9, .int (nI vn)), (0, .ref (ad 0)), (1, .ref (ad 83)), (2, .ref (ad 84)), (3, .ref (ad 85)), (4, .ref (ad 86)), (5, .ref (ad 87)), (6, .ref (ad 88)), (7, .ref (ad 89)), (8, .int p9)]) hx hb dL_acts_36 hl (by decide) rfl (fun ls hl => ?_)
    refine lv_aload_n hx hb dL_acts_38 rfl (lv_at hl 7 rfl) ?_
    refine lv_iload hx hb dL_acts_39 (lv_at hl 1 rfl) ?_
    refine lv_iload hx hb dL_acts_41 (lv_at hl 3 rfl) ?_
    refine lv_bipush (v := 24) hx hb dL_acts_43 (by decide) ?_
    refine lv_idiv hx hb dL_acts_45 (by decide) ?_
    refine q_top (y := (nI (vn / 24))) (pk_div (a := vn) (d := 24) (by omega) (by omega) (by omega)) ?_
    refine lv_bipush (v := 7) hx hb dL_acts_46 (by decide) ?_
    refine lv_irem hx hb dL_acts_48 (by decide) ?_
    refine q_top (y := (nI ((vn / 24) % 7))) (pk_rem (a := (vn / 24)) (d := 7) (by omega) (by omega) (by omega)) ?_
    refine lv_iconst (v := 3) hx hb dL_acts_49 (by decide) ?_
    refine lv_isub hx hb dL_acts_50 ?_
    refine q_istN hx hb hK hI hP hS 85 24 (ar_85) (vn % 24) dL_acts_51 rfl (by omega) (by decide) (fun H locs hP hS => ?_)
    have hP : WP D cI cS ad (sR R 85 (vn % 24) ((nI ((vn / 24) % 7)) - (3 : Int32))) F H := hP
    refine lv_aload_n hx hb dL_acts_52 rfl (lv_at hl 4 rfl) ?_
    refine lv_iload hx hb dL_acts_53 (lv_at hl 1 rfl) ?_
    refine lv_aload_n hx hb dL_acts_55 rfl (lv_at hl 7 rfl) ?_
    refine lv_iload hx hb dL_acts_56 (lv_at hl 1 rfl) ?_
    refine q_ildN hx hb hK hP 85 24 (ar_85) (vn % 24) dL_acts_58 rfl (by omega) (by decide) ?_
    refine q_top (y := ((nI ((vn / 24) % 7)) - (3 : Int32))) sR_same ?_
    refine q_callI (va_runV (As := [.int (nI (vn % 24)), .int ((nI ((vn / 24) % 7)) - (3 : Int32))]) (rest := []) ⟨hx, hb, hml, hown, hts⟩ (mX1_setDrift l D cI cS ad hI (sR R 85 (vn % 24) ((nI ((vn / 24) % 7)) - (3 : Int32))) F (nI (vn % 24)) ((nI ((vn / 24) % 7)) - (3 : Int32)) o q ho hq hF0 hF1) (cwV 2 hts gL_acts_X1_setDrift rfl rfl rfl (by decide +kernel) ⟨Nat.le_of_ble_eq_true rfl, Nat.le_of_ble_eq_true rfl⟩) (PW_preV (i := 0) (by decide) CC_0 rfl rfl hK hP) rfl rfl hl.1 rfl (lv_room (Nat.le_of_ble_eq_true rfl)) dL_acts_59 ⟨Nat.zero_le _, Nat.zero_le _⟩) hS (fun H locs hP hS => ?_)
    refine lv_iload hx hb dL_acts_62 (lv_at hl 0 rfl) ?_
    refine lv_icmp_ne (tgt := 71) hx hb dL_acts_64 (by decide) (fun c_64 => ?_) (fun c_64 => ?_)
    · refine lv_iconst (v := 0) hx hb dL_acts_71 (by decide) ?_
      have hX : (xL_acts R F p9 vn wy kw o q) = ((0 : Int32), ((xX1_setDrift (sR R 85 (vn % 24) ((nI ((vn / 24) % 7)) - (3 : Int32))) F (nI (vn % 24)) ((nI ((vn / 24) % 7)) - (3 : Int32)) o q).2.1), ((xX1_setDrift (sR R 85 (vn % 24) ((nI ((vn / 24) % 7)) - (3 : Int32))) F (nI (vn % 24)) ((nI ((vn / 24) % 7)) - (3 : Int32)) o q).2.2)) := by unfold xL_acts; rw [if_pos c_29]; unfold cutL_acts_32; rw [if_neg c_64]
      exact W.zret (v := (0 : Int32)) hx hb hr rfl (fun t ht hW => ⟨by rw [hX], by rw [hX, ht]; with_reducible exact hP, hS.F ht⟩) hS.2.2 dL_acts_72
    · refine lv_iconst (v := 1) hx hb dL_acts_67 (by decide) ?_
      refine lv_goto (tgt := 72) hx hb dL_acts_68 (by decide) ?_
      have hX : (xL_acts R F p9 vn wy kw o q) = ((1 : Int32), ((xX1_setDrift (sR R 85 (vn % 24) ((nI ((vn / 24) % 7)) - (3 : Int32))) F (nI (vn % 24)) ((nI ((vn / 24) % 7)) - (3 : Int32)) o q).2.1), ((xX1_setDrift (sR R 85 (vn % 24) ((nI ((vn / 24) % 7)) - (3 : Int32))) F (nI (vn % 24)) ((nI ((vn / 24) % 7)) - (3 : Int32)) o q).2.2)) := by unfold xL_acts; rw [if_pos c_29]; unfold cutL_acts_32; rw [if_pos c_64]
      exact W.zret (v := (1 : Int32)) hx hb hr rfl (fun t ht hW => ⟨by rw [hX], by rw [hX, ht]; with_reducible exact hP, hS.F ht⟩) hS.2.2 dL_acts_72

