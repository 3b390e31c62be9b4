/-! Models of our own Work. -/
/-- has -/
def wM67 (rc : MRq) (x1 : Int) (t : tab) : RO :=
  if x1 < 0 then
    (some (some (0, t)))
  else
    (if t 99 12 ≤ x1 then
      (some (some (0, t)))
    else
      (some (some (1, t))))
theorem wM67_k {x1 : Int} {t : tab} : Kn (fun rc => wM67 rc x1 t) := by
  unfold wM67
  exact (Kn_if Kn_c (Kn_if Kn_c Kn_c))
/-- follower -/
def wM97 (rc : MRq) (x1 : Int) (t : tab) : RO :=
  if hsz t x1 = 0 then
    (some (some ((-1), t)))
  else
    (some (some (t 104 x1.toNat, t)))
theorem wM97_k {x1 : Int} {t : tab} : Kn (fun rc => wM97 rc x1 t) := by
  unfold wM97
  exact (Kn_if Kn_c Kn_c)
/-- firstParameter -/
def wM99 (rc : MRq) (x1 : Int) (t : tab) : RO :=
  if x1 < 0 then
    (some (some (0, t)))
  else
    (if 12 ≤ x1 then
      (some (some (0, t)))
    else
      (some (some (t 113 x1.toNat, t))))
theorem wM99_k {x1 : Int} {t : tab} : Kn (fun rc => wM99 rc x1 t) := by
  unfold wM99
  exact (Kn_if Kn_c (Kn_if Kn_c Kn_c))
/-- body -/
def wM101 (rc : MRq) (x1 : Int) (t : tab) : RO :=
  if x1 < 0 then
    (some (some ((-1), t)))
  else
    (if 12 ≤ x1 then
      (some (some ((-1), t)))
    else
      (some (some (t 114 x1.toNat, t))))
theorem wM101_k {x1 : Int} {t : tab} : Kn (fun rc => wM101 rc x1 t) := by
  unfold wM101
  exact (Kn_if Kn_c (Kn_if Kn_c Kn_c))
/-- placeIn -/
def wM94 (rc : MRq) (x1 x2 : Int) (t : tab) : RO :=
  if x1 < 0 then
    (some (some (0, t)))
  else
    (if 6 ≤ x1 then
      (some (some (0, t)))
    else
      (if t 111 x1.toNat ≤ 0 then
        (some (some (0, t)))
      else
        (some (some (ian x2 (imi (t 111 x1.toNat) 1), t)))))
theorem wM94_k {x1 x2 : Int} {t : tab} : Kn (fun rc => wM94 rc x1 x2 t) := by
  unfold wM94
  exact (Kn_if Kn_c (Kn_if Kn_c (Kn_if Kn_c Kn_c)))
/-- clear -/
def wM79 (rc : MRq) (x0 : Int) (t : tab) : RO :=
  some (some (0, up2 (up2 t x0.toNat 1 0) x0.toNat 2 0))
theorem wM79_k {x0 : Int} {t : tab} : Kn (fun rc => wM79 rc x0 t) := by
  unfold wM79
  exact Kn_c
/-- add -/
def wM105 (rc : MRq) (x0 x1 : Int) (t : tab) : RO :=
  if t x0.toNat 2 < 40 then
    (some (some (1, up2 (up2 t (x0.toNat + 1) ((rmw (ipl (t x0.toNat 1) (t x0.toNat 2)) 40).toNat) x1) x0.toNat 2 (ipl ((up2 t (x0.toNat + 1) ((rmw (ipl (t x0.toNat 1) (t x0.toNat 2)) 40).toNat) x1) x0.toNat 2) 1))))
  else
    (some (some (0, t)))
theorem wM105_k {x0 x1 : Int} {t : tab} : Kn (fun rc => wM105 rc x0 x1 t) := by
  unfold wM105
  exact (Kn_if Kn_c Kn_c)
/-- remove -/
def wM108 (rc : MRq) (x0 : Int) (t : tab) : RO :=
  if 0 < t x0.toNat 2 then
    (some (some (t (x0.toNat + 1) ((t x0.toNat 1).toNat), up2 (up2 t x0.toNat 1 (rmw (ipl (t x0.toNat 1) 1) 40)) x0.toNat 2 (imi (t x0.toNat 2) 1))))
  else
    (some (some (0, t)))
theorem wM108_k {x0 : Int} {t : tab} : Kn (fun rc => wM108 rc x0 t) := by
  unfold wM108
  exact (Kn_if Kn_c Kn_c)
/-- truth -/
def wM92 (rc : MRq) (x0 : Int) (t : tab) : RO :=
  if x0 = 0 then
    (some (some (0, t)))
  else
    (some (some (1, t)))
theorem wM92_k {x0 : Int} {t : tab} : Kn (fun rc => wM92 rc x0 t) := by
  unfold wM92
  exact (Kn_if Kn_c Kn_c)
/-- signOne -/
def wM95 (rc : MRq) (x0 x1 : Int) (t : tab) : RO :=
  if x0 = 45 then
    (some (some (ing x1, t)))
  else
    (if x0 = 126 then
      (some (some (ixo x1 ((-1)), t)))
    else
      (if x1 ≠ 0 then
        (some (some (0, t)))
      else
        (some (some (1, t)))))
theorem wM95_k {x0 x1 : Int} {t : tab} : Kn (fun rc => wM95 rc x0 x1 t) := by
  unfold wM95
  exact (Kn_if Kn_c (Kn_if Kn_c (Kn_if Kn_c Kn_c)))
/-- signTwo -/
def wM91 (rc : MRq) (x0 x1 x2 : Int) (t : tab) : RO :=
  if x0 = 38 then
    (some (some (ian x1 x2, t)))
  else
    (if x0 = 42 then
      (some (some (imu x1 x2, t)))
    else
      (if x0 = 43 then
        (some (some (ipl x1 x2, t)))
      else
        (if x0 = 45 then
          (some (some (imi x1 x2, t)))
        else
          (if x0 = 47 then
            (if x2 ≠ 0 then
              (some (some (dv0 x1 x2, t)))
            else
              (some (some (0, t))))
          else
            (if x0 = 60 then
              (if x2 ≤ x1 then
                (some (some (0, t)))
              else
                (some (some (1, t))))
            else
              (if x0 = 62 then
                (if x1 ≤ x2 then
                  (some (some (0, t)))
                else
                  (some (some (1, t))))
              else
                (if x0 = 94 then
                  (some (some (ixo x1 x2, t)))
                else
                  (if x0 = 124 then
                    (some (some (ior x1 x2, t)))
                  else
                    (if x0 = 8509 then
                      (if x1 = x2 then
                        (some (some (0, t)))
                      else
                        (some (some (1, t))))
                    else
                      (if x0 = 9766 then
                        (if x1 = 0 then
                          (some (some (0, t)))
                        else
                          (if x2 = 0 then
                            (some (some (0, t)))
                          else
                            (some (some (1, t)))))
                      else
                        (if x0 = 15420 then
                          (some (some (isl x1 (ian x2 31), t)))
                        else
                          (if x0 = 15421 then
                            (if x2 < x1 then
                              (some (some (0, t)))
                            else
                              (some (some (1, t))))
                          else
                            (if x0 = 15677 then
                              (if x1 ≠ x2 then
                                (some (some (0, t)))
                              else
                                (some (some (1, t))))
                            else
                              (if x0 = 15933 then
                                (if x1 < x2 then
                                  (some (some (0, t)))
                                else
                                  (some (some (1, t))))
                              else
                                (if x0 = 15934 then
                                  (some (some (isr x1 (ian x2 31), t)))
                                else
                                  (if x0 = 31868 then
                                    (if x1 ≠ 0 then
                                      (some (some (1, t)))
                                    else
                                      (if x2 = 0 then
                                        (some (some (0, t)))
                                      else
                                        (some (some (1, t)))))
                                  else
                                    (if x2 ≠ 0 then
                                      (some (some (rmw x1 x2, t)))
                                    else
                                      (some (some (0, t))))))))))))))))))))
theorem wM91_k {x0 x1 x2 : Int} {t : tab} : Kn (fun rc => wM91 rc x0 x1 x2 t) := by
  unfold wM91
  exact (Kn_if Kn_c (Kn_if Kn_c (Kn_if Kn_c (Kn_if Kn_c (Kn_if (Kn_if Kn_c Kn_c) (Kn_if (Kn_if Kn_c Kn_c) (Kn_if (Kn_if Kn_c Kn_c) (Kn_if Kn_c (Kn_if Kn_c (Kn_if (Kn_if Kn_c Kn_c) (Kn_if (Kn_if Kn_c (Kn_if Kn_c Kn_c)) (Kn_if Kn_c (Kn_if (Kn_if Kn_c Kn_c) (Kn_if (Kn_if Kn_c Kn_c) (Kn_if (Kn_if Kn_c Kn_c) (Kn_if Kn_c (Kn_if (Kn_if Kn_c (Kn_if Kn_c Kn_c)) (Kn_if Kn_c Kn_c))))))))))))))))))
/-- push -/
def wM84 (rc : MRq) (x1 : Int) (t : tab) : RO :=
  if x1 < 0 then
    (some (some (0, t)))
  else
    (if 2000 ≤ x1 then
      (some (some (0, t)))
    else
      (if t 142 6 < 0 then
        (some (some (0, t)))
      else
        (if 2000 ≤ t 142 6 then
          (some (some (0, t)))
        else
          (some (some (0, up2 (up2 t 147 ((t 142 6).toNat) x1) 142 6 (ipl (t 142 6) 1)))))))
theorem wM84_k {x1 : Int} {t : tab} : Kn (fun rc => wM84 rc x1 t) := by
  unfold wM84
  exact (Kn_if Kn_c (Kn_if Kn_c (Kn_if Kn_c (Kn_if Kn_c Kn_c))))
/-- ask -/
def wM83 (rc : MRq) (x1 x2 : Int) (t : tab) : RO :=
  if hsz t x1 = 0 then
    (some (some (0, t)))
  else
    (some (some (0, (psw (up2 (up2 t 143 x1.toNat x2) 144 x1.toNat ((-1))) x1))))
theorem wM83_k {x1 x2 : Int} {t : tab} : Kn (fun rc => wM83 rc x1 x2 t) := by
  unfold wM83
  exact (Kn_if Kn_c Kn_c)
/-- tell -/
def wM88 (rc : MRq) (x1 x2 : Int) (t : tab) : RO :=
  if hsz t x1 = 0 then
    (some (some (0, t)))
  else
    (if 0 ≤ t 143 x1.toNat then
      (some (some (0, (psw (up2 (up2 t 145 x1.toNat x2) 142 13 (ior (t 142 13) 0)) (t 143 x1.toNat)))))
    else
      (some (some (0, (psw (up2 (up2 t 145 x1.toNat x2) 142 13 (ior (t 142 13) 1)) (t 143 x1.toNat))))))
theorem wM88_k {x1 x2 : Int} {t : tab} : Kn (fun rc => wM88 rc x1 x2 t) := by
  unfold wM88
  exact (Kn_if Kn_c (Kn_if Kn_c Kn_c))
/-- askOrTell -/
def wM102 (rc : MRq) (x1 x2 x3 : Int) (t : tab) : RO :=
  if x1 < 0 then
    (some (some (0, (tlw t x2 x3))))
  else
    (some (some (0, (akw t x1 x2))))
theorem wM102_k {x1 x2 x3 : Int} {t : tab} : Kn (fun rc => wM102 rc x1 x2 x3 t) := by
  unfold wM102
  exact (Kn_if Kn_c Kn_c)
/-- value -/
def wM90 (rc : MRq) (x1 : Int) (t : tab) : RO :=
  if hsz t x1 = 0 then
    (some (some (0, t)))
  else
    (some (some (t 145 x1.toNat, t)))
theorem wM90_k {x1 : Int} {t : tab} : Kn (fun rc => wM90 rc x1 t) := by
  unfold wM90
  exact (Kn_if Kn_c Kn_c)
/-- variable -/
def wM89 (rc : MRq) (x1 : Int) (t : tab) : RO :=
  if x1 < 0 then
    (some (some (0, t)))
  else
    (if 24 ≤ x1 then
      (some (some (0, t)))
    else
      (some (some (t 148 x1.toNat, t))))
theorem wM89_k {x1 : Int} {t : tab} : Kn (fun rc => wM89 rc x1 t) := by
  unfold wM89
  exact (Kn_if Kn_c (Kn_if Kn_c Kn_c))
/-- item -/
def wM93 (rc : MRq) (x1 x2 : Int) (t : tab) : RO :=
  if x1 < 0 then
    (some (some (0, t)))
  else
    (if x1 < 6 then
      (some (some (t 149 ((ipl (imu x1 64) (plx t x1 x2)).toNat), t)))
    else
      (some (some (0, t))))
theorem wM93_k {x1 x2 : Int} {t : tab} : Kn (fun rc => wM93 rc x1 x2 t) := by
  unfold wM93
  exact (Kn_if Kn_c (Kn_if Kn_c Kn_c))
/-- assign -/
def wM100 (rc : MRq) (x1 x2 x3 : Int) (t : tab) : RO :=
  if x1 < 0 then
    (if imi x1 24 < 0 then
      (some (some (0, t)))
    else
      (if 6 ≤ imi x1 24 then
        (some (some (0, t)))
      else
        (some (some (0, up2 t 149 ((ipl (imu (imi x1 24) 64) (plx t (imi x1 24) x2)).toNat) (i2s x3))))))
  else
    (if 24 ≤ x1 then
      (if imi x1 24 < 0 then
        (some (some (0, t)))
      else
        (if 6 ≤ imi x1 24 then
          (some (some (0, t)))
        else
          (some (some (0, up2 t 149 ((ipl (imu (imi x1 24) 64) (plx t (imi x1 24) x2)).toNat) (i2s x3))))))
    else
      (if t 110 x1.toNat ≠ 0 then
        (some (some (0, up2 t 148 x1.toNat (ian x3 (imi (isl 1 (t 110 x1.toNat)) 1)))))
      else
        (some (some (0, up2 t 148 x1.toNat (i2s x3))))))
theorem wM100_k {x1 x2 x3 : Int} {t : tab} : Kn (fun rc => wM100 rc x1 x2 x3 t) := by
  unfold wM100
  exact (Kn_if (Kn_if Kn_c (Kn_if Kn_c Kn_c)) (Kn_if (Kn_if Kn_c (Kn_if Kn_c Kn_c)) (Kn_if Kn_c Kn_c)))
/-- wake -/
def wM85 (rc : MRq) (x1 : Int) (t : tab) : RO :=
  rc 48 [x1, 8] t
theorem wM85_k {x1 : Int} {t : tab} : Kn (fun rc => wM85 rc x1 t) := by
  unfold wM85
  exact Kn_r
/-- wake, at 3 -/
def wM85_3 (rc : MRq) (x1 y2 : Int) (t : tab) : RO :=
  if 12 ≤ y2 then
    (some (some (0, t)))
  else
    (rc 48 [x1, y2 + 1] ((psw (up2 t x1.toNat y2.toNat ((-1))) (t x1.toNat y2.toNat))))
theorem wM85_3_k {x1 y2 : Int} {t : tab} : Kn (fun rc => wM85_3 rc x1 y2 t) := by
  unfold wM85_3
  exact (Kn_if Kn_c Kn_r)
/-- handOver -/
def wM106 (rc : MRq) (x1 x2 x3 : Int) (t : tab) : RO :=
  if hsz t x2 = 0 then
    (some (some (0, t)))
  else
    (some (some (0, (tlw ((tlw ((asw t (t 102 x2.toNat) (vax t (t 103 x2.toNat)) x3)) x1 0)) x2 0))))
theorem wM106_k {x1 x2 x3 : Int} {t : tab} : Kn (fun rc => wM106 rc x1 x2 x3 t) := by
  unfold wM106
  exact (Kn_if Kn_c Kn_c)
/-- sendOrWait -/
def wM104 (rc : MRq) (x1 x2 x3 : Int) (t : tab) : RO :=
  if x2 < 0 then
    (some (some (0, t)))
  else
    (if x2 < 12 then
      (if x2 < 8 then
        (if t 153 x2.toNat < 0 then
          (some (some (0, up2 t 152 x2.toNat x1)))
        else
          (some (some (0, up2 ((how t x1 (t 153 x2.toNat) x3)) 153 x2.toNat ((-1))))))
      else
        (if qaz t (((162 + 2 * (x2 - 8).toNat : Nat) : Int)) = 0 then
          (some (some (0, up2 ((qad t (((162 + 2 * (x2 - 8).toNat : Nat) : Int)) (i2s x3))) 152 x2.toNat x1)))
        else
          (some (some (0, (tlw ((qad t (((162 + 2 * (x2 - 8).toNat : Nat) : Int)) (i2s x3))) x1 0))))))
    else
      (some (some (0, t))))
theorem wM104_k {x1 x2 x3 : Int} {t : tab} : Kn (fun rc => wM104 rc x1 x2 x3 t) := by
  unfold wM104
  exact (Kn_if Kn_c (Kn_if (Kn_if (Kn_if Kn_c Kn_c) (Kn_if Kn_c Kn_c)) Kn_c))
/-- receiveOrWait -/
def wM107 (rc : MRq) (x1 x2 : Int) (t : tab) : RO :=
  if x2 < 0 then
    (some (some (0, t)))
  else
    (if x2 < 12 then
      (if x2 < 8 then
        (if t 152 x2.toNat < 0 then
          (some (some (0, up2 t 153 x2.toNat x1)))
        else
          (some (some (0, up2 ((how t (t 152 x2.toNat) x1 (vax t (t 102 ((t 152 x2.toNat).toNat))))) 152 x2.toNat ((-1))))))
      else
        (if t (154 + 2 * (x2 - 8).toNat) 2 ≤ 0 then
          (some (some (0, up2 t 153 x2.toNat x1)))
        else
          (some (some (0, (tlw ((asw ((qrm t (((154 + 2 * (x2 - 8).toNat : Nat) : Int)))) (t 102 x1.toNat) (vax t (t 103 x1.toNat)) (qrz t (((154 + 2 * (x2 - 8).toNat : Nat) : Int))))) x1 0))))))
    else
      (some (some (0, t))))
theorem wM107_k {x1 x2 : Int} {t : tab} : Kn (fun rc => wM107 rc x1 x2 t) := by
  unfold wM107
  exact (Kn_if Kn_c (Kn_if (Kn_if (Kn_if Kn_c Kn_c) (Kn_if Kn_c Kn_c)) Kn_c))
/-- turnToE -/
def wM87 (rc : MRq) (x1 x2 : Int) (t : tab) : RO :=
  if t 100 x1.toNat = 2 then
    (some (some (0, (tlw t x1 (t 101 x1.toNat)))))
  else
    (if t 100 x1.toNat = 400 then
      (some (some (0, (tlw t x1 (vrx t (t 101 x1.toNat))))))
    else
      (if t 100 x1.toNat = 403 then
        (if 2 ≤ x2 then
          (some (some (0, (tlw t x1 (s2x (t 101 x1.toNat) (vax t (t 102 x1.toNat)) (vax t (t 103 x1.toNat)))))))
        else
          (if x2 ≠ 0 then
            (some (some (0, (akw t (t 103 x1.toNat) x1))))
          else
            (some (some (0, (akw t (t 102 x1.toNat) x1))))))
      else
        (if x2 ≠ 0 then
          (if t 100 x1.toNat ≠ 401 then
            (some (some (0, (tlw t x1 (s1x (t 101 x1.toNat) (vax t (t 102 x1.toNat)))))))
          else
            (some (some (0, (tlw t x1 (itw t (t 101 x1.toNat) (vax t (t 102 x1.toNat))))))))
        else
          (some (some (0, (akw t (t 102 x1.toNat) x1)))))))
theorem wM87_k {x1 x2 : Int} {t : tab} : Kn (fun rc => wM87 rc x1 x2 t) := by
  unfold wM87
  exact (Kn_if Kn_c (Kn_if Kn_c (Kn_if (Kn_if Kn_c (Kn_if Kn_c Kn_c)) (Kn_if (Kn_if Kn_c Kn_c) Kn_c))))
/-- pass -/
def wM98 (rc : MRq) (x1 x2 x3 : Int) (t : tab) : RO :=
  rc 49 [x1, x3, x2, 0] t
theorem wM98_k {x1 x2 x3 : Int} {t : tab} : Kn (fun rc => wM98 rc x1 x2 x3 t) := by
  unfold wM98
  exact Kn_r
/-- pass, at 6 -/
def wM98_6 (rc : MRq) (y1 y3 y4 y5 : Int) (t : tab) : RO :=
  if y3 ≤ y5 then
    (some (some (0, t)))
  else
    (rc 49 [y1, y3, flx ((asw t (ipl (fpx t y1) y5) 0 (vax t y4))) y4, y5 + 1] ((asw t (ipl (fpx t y1) y5) 0 (vax t y4))))
theorem wM98_6_k {y1 y3 y4 y5 : Int} {t : tab} : Kn (fun rc => wM98_6 rc y1 y3 y4 y5 t) := by
  unfold wM98_6
  exact (Kn_if Kn_c Kn_r)
/-- turnToCall -/
def wM96 (rc : MRq) (x1 x2 : Int) (t : tab) : RO :=
  if t 103 x1.toNat ≤ x2 then
    (if x2 ≠ t 103 x1.toNat then
      (some (some (0, (otw (up2 t 146 x1.toNat (flx t (t 146 x1.toNat))) (flx t (t 146 x1.toNat)) x1 (vax t (t 146 x1.toNat))))))
    else
      (bo (rc 24 [t 101 x1.toNat, t 102 x1.toNat, t 103 x1.toNat] t) fun z27 t27 =>
      some (some (0, (akw (up2 t27 146 x1.toNat (bdx t27 (t 101 x1.toNat))) (bdx t27 (t 101 x1.toNat)) x1)))))
  else
    (if x2 ≠ 0 then
      (some (some (0, (akw (up2 t 146 x1.toNat (flx t (t 146 x1.toNat))) (flx t (t 146 x1.toNat)) x1))))
    else
      (some (some (0, (akw (up2 t 146 x1.toNat (t 102 x1.toNat)) (t 102 x1.toNat) x1)))))
theorem wM96_k {x1 x2 : Int} {t : tab} : Kn (fun rc => wM96 rc x1 x2 t) := by
  unfold wM96
  exact (Kn_if (Kn_if Kn_c (Kn_bo Kn_r fun _ _ => Kn_c)) (Kn_if Kn_c Kn_c))
/-- turnToMove -/
def wM103 (rc : MRq) (x1 x2 : Int) (t : tab) : RO :=
  if 0 ≤ t 103 x1.toNat then
    (if t 100 x1.toNat ≠ 406 then
      (if x2 ≠ 0 then
        (if t 100 x1.toNat ≠ 407 then
          (if x2 ≠ 1 then
            (some (some (0, (tlw ((asw t (t 101 x1.toNat) (vax t (t 103 x1.toNat)) (vax t (t 102 x1.toNat)))) x1 0))))
          else
            (some (some (0, (akw t (t 102 x1.toNat) x1)))))
        else
          (bo (rc 22 [x1, t 101 x1.toNat] t) fun z23 t23 =>
          some (some (0, t23))))
      else
        (some (some (0, (akw t (t 103 x1.toNat) x1)))))
    else
      (if x2 ≠ 0 then
        (bo (rc 21 [x1, t 101 x1.toNat, vax t (t 102 x1.toNat)] t) fun z27 t27 =>
        some (some (0, t27)))
      else
        (some (some (0, (akw t (t 102 x1.toNat) x1))))))
  else
    (if t 100 x1.toNat ≠ 406 then
      (if ipl x2 1 ≠ 0 then
        (if t 100 x1.toNat ≠ 407 then
          (if ipl x2 1 ≠ 1 then
            (some (some (0, (tlw ((asw t (t 101 x1.toNat) (vax t (t 103 x1.toNat)) (vax t (t 102 x1.toNat)))) x1 0))))
          else
            (some (some (0, (akw t (t 102 x1.toNat) x1)))))
        else
          (bo (rc 22 [x1, t 101 x1.toNat] t) fun z39 t39 =>
          some (some (0, t39))))
      else
        (some (some (0, (akw t (t 103 x1.toNat) x1)))))
    else
      (if x2 ≠ 0 then
        (bo (rc 21 [x1, t 101 x1.toNat, vax t (t 102 x1.toNat)] t) fun z43 t43 =>
        some (some (0, t43)))
      else
        (some (some (0, (akw t (t 102 x1.toNat) x1))))))
theorem wM103_k {x1 x2 : Int} {t : tab} : Kn (fun rc => wM103 rc x1 x2 t) := by
  unfold wM103
  exact (Kn_if (Kn_if (Kn_if (Kn_if (Kn_if Kn_c Kn_c) (Kn_bo Kn_r fun _ _ => Kn_c)) Kn_c) (Kn_if (Kn_bo Kn_r fun _ _ => Kn_c) Kn_c)) (Kn_if (Kn_if (Kn_if (Kn_if Kn_c Kn_c) (Kn_bo Kn_r fun _ _ => Kn_c)) Kn_c) (Kn_if (Kn_bo Kn_r fun _ _ => Kn_c) Kn_c)))
/-- turnToPar -/
def wM110 (rc : MRq) (x1 x2 : Int) (t : tab) : RO :=
  if x2 ≠ 0 then
    (if x2 ≠ t 102 x1.toNat then
      (some (some (0, t)))
    else
      (some (some (0, (tlw t x1 0)))))
  else
    (rc 50 [x1, t 102 x1.toNat, t 101 x1.toNat, 0] t)
theorem wM110_k {x1 x2 : Int} {t : tab} : Kn (fun rc => wM110 rc x1 x2 t) := by
  unfold wM110
  exact (Kn_if (Kn_if Kn_c Kn_c) Kn_r)
/-- turnToPar, at 28 -/
def wM110_28 (rc : MRq) (y1 y3 y4 y5 : Int) (t : tab) : RO :=
  if y3 ≤ y5 then
    (some (some (0, t)))
  else
    (rc 50 [y1, y3, flx ((akw t y4 y1)) y4, y5 + 1] ((akw t y4 y1)))
theorem wM110_28_k {y1 y3 y4 y5 : Int} {t : tab} : Kn (fun rc => wM110_28 rc y1 y3 y4 y5 t) := by
  unfold wM110_28
  exact (Kn_if Kn_c Kn_r)
/-- turnToFlow -/
def wM109 (rc : MRq) (x1 x2 : Int) (t : tab) : RO :=
  if t 100 x1.toNat = 308 then
    (if x2 ≠ 0 then
      (if vax t (t 101 x1.toNat) = 0 then
        (if x2 ≠ 1 then
          (some (some (0, (otw t ((-1)) x1 0))))
        else
          (some (some (0, (otw t (t 103 x1.toNat) x1 0)))))
      else
        (if x2 ≠ 1 then
          (some (some (0, (otw t ((-1)) x1 0))))
        else
          (some (some (0, (otw t (t 102 x1.toNat) x1 0))))))
    else
      (some (some (0, (akw t (t 101 x1.toNat) x1)))))
  else
    (if t 100 x1.toNat = 310 then
      (if rmw x2 2 ≠ 0 then
        (if vax t (t 101 x1.toNat) = 0 then
          (some (some (0, (otw t ((-1)) x1 0))))
        else
          (some (some (0, (otw t (t 102 x1.toNat) x1 0)))))
      else
        (some (some (0, (akw t (t 101 x1.toNat) x1)))))
    else
      (if t 100 x1.toNat = 311 then
        (if t 101 x1.toNat ≤ x2 then
          (some (some (0, (otw t ((-1)) x1 0))))
        else
          (some (some (0, (otw t (t 102 x1.toNat) x1 0)))))
      else
        (if t 100 x1.toNat = 312 then
          (bo (rc 27 [x1, x2] t) fun z36 t36 =>
          some (some (0, t36)))
        else
          (if t 100 x1.toNat = 408 then
            (if x2 ≠ 0 then
              (some (some (0, (otw (up2 t 146 x1.toNat (flx t (t 146 x1.toNat))) (flx t (t 146 x1.toNat)) x1 0))))
            else
              (some (some (0, (otw (up2 t 146 x1.toNat (t 101 x1.toNat)) (t 101 x1.toNat) x1 0)))))
          else
            (some (some (0, (tlw t x1 0))))))))
theorem wM109_k {x1 x2 : Int} {t : tab} : Kn (fun rc => wM109 rc x1 x2 t) := by
  unfold wM109
  exact (Kn_if (Kn_if (Kn_if (Kn_if Kn_c Kn_c) (Kn_if Kn_c Kn_c)) Kn_c) (Kn_if (Kn_if (Kn_if Kn_c Kn_c) Kn_c) (Kn_if (Kn_if Kn_c Kn_c) (Kn_if (Kn_bo Kn_r fun _ _ => Kn_c) (Kn_if (Kn_if Kn_c Kn_c) Kn_c)))))
/-- turnTo -/
def wM86 (rc : MRq) (x1 : Int) (t : tab) : RO :=
  if t 100 x1.toNat = 2 then
    (bo (rc 23 [x1, t 144 x1.toNat] (up2 t 144 x1.toNat (ipl (t 144 x1.toNat) 1))) fun z15 t15 =>
    some (some (0, t15)))
  else
    (if t 100 x1.toNat = 400 then
      (bo (rc 23 [x1, t 144 x1.toNat] (up2 t 144 x1.toNat (ipl (t 144 x1.toNat) 1))) fun z17 t17 =>
      some (some (0, t17)))
    else
      (if t 100 x1.toNat = 401 then
        (bo (rc 23 [x1, t 144 x1.toNat] (up2 t 144 x1.toNat (ipl (t 144 x1.toNat) 1))) fun z19 t19 =>
        some (some (0, t19)))
      else
        (if t 100 x1.toNat = 402 then
          (bo (rc 23 [x1, t 144 x1.toNat] (up2 t 144 x1.toNat (ipl (t 144 x1.toNat) 1))) fun z21 t21 =>
          some (some (0, t21)))
        else
          (if t 100 x1.toNat = 403 then
            (bo (rc 23 [x1, t 144 x1.toNat] (up2 t 144 x1.toNat (ipl (t 144 x1.toNat) 1))) fun z23 t23 =>
            some (some (0, t23)))
          else
            (if t 100 x1.toNat = 404 then
              (bo (rc 25 [x1, t 144 x1.toNat] (up2 t 144 x1.toNat (ipl (t 144 x1.toNat) 1))) fun z25 t25 =>
              some (some (0, t25)))
            else
              (if t 100 x1.toNat = 405 then
                (bo (rc 26 [x1, t 144 x1.toNat] (up2 t 144 x1.toNat (ipl (t 144 x1.toNat) 1))) fun z27 t27 =>
                some (some (0, t27)))
              else
                (if t 100 x1.toNat = 406 then
                  (bo (rc 26 [x1, t 144 x1.toNat] (up2 t 144 x1.toNat (ipl (t 144 x1.toNat) 1))) fun z29 t29 =>
                  some (some (0, t29)))
                else
                  (if t 100 x1.toNat = 407 then
                    (bo (rc 26 [x1, t 144 x1.toNat] (up2 t 144 x1.toNat (ipl (t 144 x1.toNat) 1))) fun z31 t31 =>
                    some (some (0, t31)))
                  else
                    (bo (rc 28 [x1, t 144 x1.toNat] (up2 t 144 x1.toNat (ipl (t 144 x1.toNat) 1))) fun z32 t32 =>
                    some (some (0, t32)))))))))))
theorem wM86_k {x1 : Int} {t : tab} : Kn (fun rc => wM86 rc x1 t) := by
  unfold wM86
  exact (Kn_if (Kn_bo Kn_r fun _ _ => Kn_c) (Kn_if (Kn_bo Kn_r fun _ _ => Kn_c) (Kn_if (Kn_bo Kn_r fun _ _ => Kn_c) (Kn_if (Kn_bo Kn_r fun _ _ => Kn_c) (Kn_if (Kn_bo Kn_r fun _ _ => Kn_c) (Kn_if (Kn_bo Kn_r fun _ _ => Kn_c) (Kn_if (Kn_bo Kn_r fun _ _ => Kn_c) (Kn_if (Kn_bo Kn_r fun _ _ => Kn_c) (Kn_if (Kn_bo Kn_r fun _ _ => Kn_c) (Kn_bo Kn_r fun _ _ => Kn_c))))))))))
/-- goOn -/
def wM82 (rc : MRq) (x1 : Int) (t : tab) : RO :=
  if t 142 14 ≠ 0 then
    (bo (rc 19 [152] (up2 t 142 15 0)) fun z4 t4 =>
    bo (rc 19 [153] t4) fun z5 t5 =>
    rc 51 [x1, 0] t5)
  else
    (rc 51 [x1, 0] ((akw (up2 t 142 15 0) (t 99 13) ((-1)))))
theorem wM82_k {x1 : Int} {t : tab} : Kn (fun rc => wM82 rc x1 t) := by
  unfold wM82
  exact (Kn_if (Kn_bo Kn_r fun _ _ => (Kn_bo Kn_r fun _ _ => Kn_r)) Kn_r)
/-- goOn, at 45 -/
def wM82_45 (rc : MRq) (y1 y2 : Int) (t : tab) : RO :=
  if 1000000 ≤ y2 then
    (if t 142 13 = 0 then
      (some (some (0, up2 t 142 14 2)))
    else
      (some (some (0, up2 t 142 14 1))))
  else
    (if t 142 6 ≤ 0 then
      (if t 142 13 = 0 then
        (some (some (0, up2 t 142 14 2)))
      else
        (some (some (0, up2 t 142 14 1))))
    else
      (if 0 ≤ t 144 ((t 147 ((imi (t 142 6) 1).toNat)).toNat) then
        (bo (rc 29 [t 147 ((imi (t 142 6) 1).toNat)] (up2 t 142 6 (imi (t 142 6) 1))) fun z23 t23 =>
        rc 51 [y1, y2 + 1] t23)
      else
        (if t 142 15 ≠ y1 then
          (bo (rc 29 [t 147 ((imi (t 142 6) 1).toNat)] (up2 (up2 (up2 t 142 6 (imi (t 142 6) 1)) 142 15 (ipl (t 142 15) 1)) 144 ((t 147 ((imi (t 142 6) 1).toNat)).toNat) 0)) fun z33 t33 =>
          rc 51 [y1, y2 + 1] t33)
        else
          (some (some (0, up2 (up2 (up2 t 142 6 (imi (t 142 6) 1)) 142 14 3) 142 15 0))))))
theorem wM82_45_k {y1 y2 : Int} {t : tab} : Kn (fun rc => wM82_45 rc y1 y2 t) := by
  unfold wM82_45
  exact (Kn_if (Kn_if Kn_c Kn_c) (Kn_if (Kn_if Kn_c Kn_c) (Kn_if (Kn_bo Kn_r fun _ _ => Kn_r) (Kn_if (Kn_bo Kn_r fun _ _ => Kn_r) Kn_c))))
/-- restart -/
def wM78 (rc : MRq) (t : tab) : RO :=
  bo (rc 32 [148, 0] t) fun z1 t1 =>
  bo (rc 32 [149, 0] t1) fun z2 t2 =>
  bo (rc 32 [152, (-1)] t2) fun z3 t3 =>
  bo (rc 32 [153, (-1)] t3) fun z4 t4 =>
  rc 52 [0] t4
theorem wM78_k {t : tab} : Kn (fun rc => wM78 rc t) := by
  unfold wM78
  exact (Kn_bo Kn_r fun _ _ => (Kn_bo Kn_r fun _ _ => (Kn_bo Kn_r fun _ _ => (Kn_bo Kn_r fun _ _ => Kn_r))))
/-- restart, at 39 -/
def wM78_39 (rc : MRq) (y2 : Int) (t : tab) : RO :=
  if 4 ≤ y2 then
    (rc 53 [0] t)
  else
    (rc 52 [y2 + 1] ((qcl t (((154 + 2 * y2.toNat : Nat) : Int)))))
theorem wM78_39_k {y2 : Int} {t : tab} : Kn (fun rc => wM78_39 rc y2 t) := by
  unfold wM78_39
  exact (Kn_if Kn_r Kn_r)
/-- restart, at 61 -/
def wM78_61 (rc : MRq) (y2 : Int) (t : tab) : RO :=
  if 4 ≤ y2 then
    (some (some (0, up2 (up2 (up2 t 142 6 0) 142 13 0) 142 14 0)))
  else
    (rc 53 [y2 + 1] ((qcl t (((162 + 2 * y2.toNat : Nat) : Int)))))
theorem wM78_61_k {y2 : Int} {t : tab} : Kn (fun rc => wM78_61 rc y2 t) := by
  unfold wM78_61
  exact (Kn_if Kn_c Kn_r)
/-- fill -/
def wM23 (rc : MRq) (x0 x1 : Int) (t : tab) : RO :=
  rc 54 [x0, x1, 0, ((fln x0.toNat : Nat) : Int)] t
theorem wM23_k {x0 x1 : Int} {t : tab} : Kn (fun rc => wM23 rc x0 x1 t) := by
  unfold wM23
  exact Kn_r
/-- fill, at 5 -/
def wM23_5 (rc : MRq) (x0 y1 y2 y3 : Int) (t : tab) : RO :=
  if y3 ≤ y2 then
    (some (some (0, t)))
  else
    (rc 54 [x0, y1, y2 + 1, y3] (up2 t x0.toNat y2.toNat y1))
theorem wM23_5_k {x0 y1 y2 y3 : Int} {t : tab} : Kn (fun rc => wM23_5 rc x0 y1 y2 y3 t) := by
  unfold wM23_5
  exact (Kn_if Kn_c Kn_r)
/-- isLetter -/
def wM27 (rc : MRq) (x0 : Int) (t : tab) : RO :=
  if x0 < 97 then
    (some (some (0, t)))
  else
    (if 122 < x0 then
      (some (some (0, t)))
    else
      (some (some (1, t))))
theorem wM27_k {x0 : Int} {t : tab} : Kn (fun rc => wM27 rc x0 t) := by
  unfold wM27
  exact (Kn_if Kn_c (Kn_if Kn_c Kn_c))
/-- isDigit -/
def wM30 (rc : MRq) (x0 : Int) (t : tab) : RO :=
  if x0 < 48 then
    (some (some (0, t)))
  else
    (if 57 < x0 then
      (some (some (0, t)))
    else
      (some (some (1, t))))
theorem wM30_k {x0 : Int} {t : tab} : Kn (fun rc => wM30 rc x0 t) := by
  unfold wM30
  exact (Kn_if Kn_c (Kn_if Kn_c Kn_c))
/-- inName -/
def wM29 (rc : MRq) (x0 : Int) (t : tab) : RO :=
  if ltz x0 ≠ 0 then
    (some (some (1, t)))
  else
    (if dgz x0 = 0 then
      (some (some (0, t)))
    else
      (some (some (1, t))))
theorem wM29_k {x0 : Int} {t : tab} : Kn (fun rc => wM29 rc x0 t) := by
  unfold wM29
  exact (Kn_if Kn_c (Kn_if Kn_c Kn_c))
/-- at -/
def wM26 (rc : MRq) (x1 : Int) (t : tab) : RO :=
  if x1 < 0 then
    (some (some ((-1), t)))
  else
    (if t 97 1 ≤ x1 then
      (some (some ((-1), t)))
    else
      (some (some (ian (t 98 x1.toNat) 255, t))))
theorem wM26_k {x1 : Int} {t : tab} : Kn (fun rc => wM26 rc x1 t) := by
  unfold wM26
  exact (Kn_if Kn_c (Kn_if Kn_c Kn_c))
/-- word -/
def wM114 (rc : MRq) (t : tab) : RO :=
  rc 55 [0, 0] t
theorem wM114_k {t : tab} : Kn (fun rc => wM114 rc t) := by
  unfold wM114
  exact Kn_r
/-- word, at 4 -/
def wM114_4 (rc : MRq) (y1 y3 : Int) (t : tab) : RO :=
  if t 97 1 ≤ y3 then
    (some (some (y1, t)))
  else
    (if y3 = 8 then
      (some (some (0, t)))
    else
      (if alz (atb t y3) ≠ 0 then
        (rc 55 [lo (lsl y1 8) (atb t y3), y3 + 1] t)
      else
        (some (some (0, t)))))
theorem wM114_4_k {y1 y3 : Int} {t : tab} : Kn (fun rc => wM114_4 rc y1 y3 t) := by
  unfold wM114_4
  exact (Kn_if Kn_c (Kn_if Kn_c (Kn_if Kn_r Kn_c)))
/-- find -/
def wM39 (rc : MRq) (x1 x3 : Int) (t : tab) : RO :=
  rc 56 [x1, (-1), mxx x3 0] t
theorem wM39_k {x1 x3 : Int} {t : tab} : Kn (fun rc => wM39 rc x1 x3 t) := by
  unfold wM39
  exact Kn_r
/-- find, at 10 -/
def wM39_10 (rc : MRq) (y1 y4 y5 : Int) (t : tab) : RO :=
  if t 105 3 ≤ y5 then
    (some (some (y4, t)))
  else
    (if t 106 y5.toNat ≠ y1 then
      (rc 56 [y1, y4, y5 + 1] t)
    else
      (rc 56 [y1, y5, y5 + 1] t))
theorem wM39_10_k {y1 y4 y5 : Int} {t : tab} : Kn (fun rc => wM39_10 rc y1 y4 y5 t) := by
  unfold wM39_10
  exact (Kn_if Kn_c (Kn_if Kn_r Kn_r))
/-- kind -/
def wM62 (rc : MRq) (x1 : Int) (t : tab) : RO :=
  if x1 < 0 then
    (some (some ((-1), t)))
  else
    (if t 105 3 ≤ x1 then
      (some (some ((-1), t)))
    else
      (some (some (t 107 x1.toNat, t))))
theorem wM62_k {x1 : Int} {t : tab} : Kn (fun rc => wM62 rc x1 t) := by
  unfold wM62
  exact (Kn_if Kn_c (Kn_if Kn_c Kn_c))
/-- number -/
def wM63 (rc : MRq) (x1 : Int) (t : tab) : RO :=
  if x1 < 0 then
    (some (some ((-1), t)))
  else
    (if t 105 3 ≤ x1 then
      (some (some ((-1), t)))
    else
      (some (some (t 108 x1.toNat, t))))
theorem wM63_k {x1 : Int} {t : tab} : Kn (fun rc => wM63 rc x1 t) := by
  unfold wM63
  exact (Kn_if Kn_c (Kn_if Kn_c Kn_c))
/-- look -/
def wM113 (rc : MRq) (x1 : Int) (t : tab) : RO :=
  if t 96 3 = 0 then
    (some (some (1099511627776, up2 t 97 1 0)))
  else
    (if t 142 14 ≠ 3 then
      (if nkd (up2 t 97 1 0) (fdn (up2 t 97 1 0) (wdz t) 0) ≠ 0 then
        (if nkd (up2 t 97 1 0) (fdn (up2 t 97 1 0) (wdz t) 0) ≠ 1 then
          (some (some (1099511627776, up2 t 97 1 0)))
        else
          (some (some (itw (up2 t 97 1 0) (nnm (up2 t 97 1 0) (fdn (up2 t 97 1 0) (wdz t) 0)) x1, up2 t 97 1 0))))
      else
        (some (some (vrx (up2 t 97 1 0) (nnm (up2 t 97 1 0) (fdn (up2 t 97 1 0) (wdz t) 0)), up2 t 97 1 0))))
    else
      (some (some (1099511627776, up2 t 97 1 0))))
theorem wM113_k {x1 : Int} {t : tab} : Kn (fun rc => wM113 rc x1 t) := by
  unfold wM113
  exact (Kn_if Kn_c (Kn_if (Kn_if (Kn_if Kn_c Kn_c) Kn_c) Kn_c))
/-- begin -/
def wM80 (rc : MRq) (t : tab) : RO :=
  if t 96 3 ≠ 0 then
    (bo (rc 31 [] t) fun z3 t3 =>
    some (some (0, t3)))
  else
    (some (some ((-2), t)))
theorem wM80_k {t : tab} : Kn (fun rc => wM80 rc t) := by
  unfold wM80
  exact (Kn_if (Kn_bo Kn_r fun _ _ => Kn_c) Kn_c)
/-- run -/
def wM81 (rc : MRq) (x1 : Int) (t : tab) : RO :=
  if t 96 3 ≠ 0 then
    (if x1 < 1 then
      (some (some ((-1), t)))
    else
      (if 20000 < x1 then
        (some (some ((-1), t)))
      else
        (if t 142 14 ≠ 3 then
          (bo (rc 30 [x1] t) fun z7 t7 =>
          some (some (t7 142 14, t7)))
        else
          (some (some ((-1), t))))))
  else
    (some (some ((-2), t)))
theorem wM81_k {x1 : Int} {t : tab} : Kn (fun rc => wM81 rc x1 t) := by
  unfold wM81
  exact (Kn_if (Kn_if Kn_c (Kn_if Kn_c (Kn_if (Kn_bo Kn_r fun _ _ => Kn_c) Kn_c))) Kn_c)
/-- give -/
def wM111 (rc : MRq) (x1 x2 : Int) (t : tab) : RO :=
  if t 96 3 = 0 then
    (some (some ((-2), t)))
  else
    (if t 142 14 = 3 then
      (some (some ((-2), t)))
    else
      (if x1 < 0 then
        (some (some ((-2), t)))
      else
        (if x1 < t 109 3 then
          (if qaz t (((154 + 2 * x1.toNat : Nat) : Int)) = 0 then
            (some (some ((-3), (qad t (((154 + 2 * x1.toNat : Nat) : Int)) (i2s x2)))))
          else
            (some (some ((qad t (((154 + 2 * x1.toNat : Nat) : Int)) (i2s x2)) (154 + 2 * x1.toNat) 2, (qad t (((154 + 2 * x1.toNat : Nat) : Int)) (i2s x2))))))
        else
          (some (some ((-2), t))))))
theorem wM111_k {x1 x2 : Int} {t : tab} : Kn (fun rc => wM111 rc x1 x2 t) := by
  unfold wM111
  exact (Kn_if Kn_c (Kn_if Kn_c (Kn_if Kn_c (Kn_if (Kn_if Kn_c Kn_c) Kn_c))))
/-- take -/
def wM112 (rc : MRq) (x1 : Int) (t : tab) : RO :=
  if t 96 3 = 0 then
    (some (some (1099511627776, t)))
  else
    (if t 142 14 = 3 then
      (some (some (1099511627776, t)))
    else
      (if x1 < 0 then
        (some (some (1099511627776, t)))
      else
        (if x1 < t 109 4 then
          (if t (162 + 2 * x1.toNat) 2 ≤ 0 then
            (some (some (1099511627776, t)))
          else
            (some (some (qrz t (((162 + 2 * x1.toNat : Nat) : Int)), (qrm t (((162 + 2 * x1.toNat : Nat) : Int)))))))
        else
          (some (some (1099511627776, t))))))
theorem wM112_k {x1 : Int} {t : tab} : Kn (fun rc => wM112 rc x1 t) := by
  unfold wM112
  exact (Kn_if Kn_c (Kn_if Kn_c (Kn_if Kn_c (Kn_if (Kn_if Kn_c Kn_c) Kn_c))))
/-- count -/
def wM115 (rc : MRq) (x1 : Int) (t : tab) : RO :=
  if x1 < 0 then
    (some (some ((-1), t)))
  else
    (if x1 ≤ 12 then
      (if t 96 3 ≠ 0 then
        (if x1 ≠ 0 then
          (if 6 < x1 then
            (if x1 ≠ 7 then
              (if x1 ≠ 8 then
                (if t 142 14 ≠ 3 then
                  (some (some (t (162 + 2 * (imi x1 9).toNat) 2, t)))
                else
                  (some (some (0, t))))
              else
                (some (some (t 142 14, t))))
            else
              (some (some (t 142 15, t))))
          else
            (some (some (t 109 ((imi x1 1).toNat), t))))
        else
          (some (some (t 99 12, t))))
      else
        (some (some (0, t))))
    else
      (some (some ((-1), t))))
theorem wM115_k {x1 : Int} {t : tab} : Kn (fun rc => wM115 rc x1 t) := by
  unfold wM115
  exact (Kn_if Kn_c (Kn_if (Kn_if (Kn_if (Kn_if (Kn_if (Kn_if (Kn_if Kn_c Kn_c) Kn_c) Kn_c) Kn_c) Kn_c) Kn_c) Kn_c))
/-- end -/
def wM18 (rc : MRq) (x1 : Int) (t : tab) : RO :=
  if x1 < 0 then
    (some (some ((-1), t)))
  else
    (if x1 ≤ t 97 1 then
      (some (some (x1, up2 t 97 1 x1)))
    else
      (some (some ((-1), t))))
theorem wM18_k {x1 : Int} {t : tab} : Kn (fun rc => wM18 rc x1 t) := by
  unfold wM18
  exact (Kn_if Kn_c (Kn_if Kn_c Kn_c))
def wL : List (MRq → List Int → tab → RO) := [
  fun rc xs t => wM67 rc (xs.getD 0 0) t,
  fun rc xs t => wM97 rc (xs.getD 0 0) t,
  fun rc xs t => wM99 rc (xs.getD 0 0) t,
  fun rc xs t => wM101 rc (xs.getD 0 0) t,
  fun rc xs t => wM94 rc (xs.getD 0 0) (xs.getD 1 0) t,
  fun rc xs t => wM79 rc (xs.getD 0 0) t,
  fun rc xs t => wM105 rc (xs.getD 0 0) (xs.getD 1 0) t,
  fun rc xs t => wM108 rc (xs.getD 0 0) t,
  fun rc xs t => wM92 rc (xs.getD 0 0) t,
  fun rc xs t => wM95 rc (xs.getD 0 0) (xs.getD 1 0) t,
  fun rc xs t => wM91 rc (xs.getD 0 0) (xs.getD 1 0) (xs.getD 2 0) t,
  fun rc xs t => wM84 rc (xs.getD 0 0) t,
  fun rc xs t => wM83 rc (xs.getD 0 0) (xs.getD 1 0) t,
  fun rc xs t => wM88 rc (xs.getD 0 0) (xs.getD 1 0) t,
  fun rc xs t => wM102 rc (xs.getD 0 0) (xs.getD 1 0) (xs.getD 2 0) t,
  fun rc xs t => wM90 rc (xs.getD 0 0) t,
  fun rc xs t => wM89 rc (xs.getD 0 0) t,
  fun rc xs t => wM93 rc (xs.getD 0 0) (xs.getD 1 0) t,
  fun rc xs t => wM100 rc (xs.getD 0 0) (xs.getD 1 0) (xs.getD 2 0) t,
  fun rc xs t => wM85 rc (xs.getD 0 0) t,
  fun rc xs t => wM106 rc (xs.getD 0 0) (xs.getD 1 0) (xs.getD 2 0) t,
  fun rc xs t => wM104 rc (xs.getD 0 0) (xs.getD 1 0) (xs.getD 2 0) t,
  fun rc xs t => wM107 rc (xs.getD 0 0) (xs.getD 1 0) t,
  fun rc xs t => wM87 rc (xs.getD 0 0) (xs.getD 1 0) t,
  fun rc xs t => wM98 rc (xs.getD 0 0) (xs.getD 1 0) (xs.getD 2 0) t,
  fun rc xs t => wM96 rc (xs.getD 0 0) (xs.getD 1 0) t,
  fun rc xs t => wM103 rc (xs.getD 0 0) (xs.getD 1 0) t,
  fun rc xs t => wM110 rc (xs.getD 0 0) (xs.getD 1 0) t,
  fun rc xs t => wM109 rc (xs.getD 0 0) (xs.getD 1 0) t,
  fun rc xs t => wM86 rc (xs.getD 0 0) t,
  fun rc xs t => wM82 rc (xs.getD 0 0) t,
  fun rc xs t => wM78 rc t,
  fun rc xs t => wM23 rc (xs.getD 0 0) (xs.getD 1 0) t,
  fun rc xs t => wM27 rc (xs.getD 0 0) t,
  fun rc xs t => wM30 rc (xs.getD 0 0) t,
  fun rc xs t => wM29 rc (xs.getD 0 0) t,
  fun rc xs t => wM26 rc (xs.getD 0 0) t,
  fun rc xs t => wM114 rc t,
  fun rc xs t => wM39 rc (xs.getD 0 0) (xs.getD 1 0) t,
  fun rc xs t => wM62 rc (xs.getD 0 0) t,
  fun rc xs t => wM63 rc (xs.getD 0 0) t,
  fun rc xs t => wM113 rc (xs.getD 0 0) t,
  fun rc xs t => wM80 rc t,
  fun rc xs t => wM81 rc (xs.getD 0 0) t,
  fun rc xs t => wM111 rc (xs.getD 0 0) (xs.getD 1 0) t,
  fun rc xs t => wM112 rc (xs.getD 0 0) t,
  fun rc xs t => wM115 rc (xs.getD 0 0) t,
  fun rc xs t => wM18 rc (xs.getD 0 0) t,
  fun rc xs t => wM85_3 rc (xs.getD 0 0) (xs.getD 1 0) t,
  fun rc xs t => wM98_6 rc (xs.getD 0 0) (xs.getD 1 0) (xs.getD 2 0) (xs.getD 3 0) t,
  fun rc xs t => wM110_28 rc (xs.getD 0 0) (xs.getD 1 0) (xs.getD 2 0) (xs.getD 3 0) t,
  fun rc xs t => wM82_45 rc (xs.getD 0 0) (xs.getD 1 0) t,
  fun rc xs t => wM78_39 rc (xs.getD 0 0) t,
  fun rc xs t => wM78_61 rc (xs.getD 0 0) t,
  fun rc xs t => wM23_5 rc (xs.getD 0 0) (xs.getD 1 0) (xs.getD 2 0) (xs.getD 3 0) t,
  fun rc xs t => wM114_4 rc (xs.getD 0 0) (xs.getD 1 0) t,
  fun rc xs t => wM39_10 rc (xs.getD 0 0) (xs.getD 1 0) (xs.getD 2 0) t]
def wB (rc : MRq) : MRq := fun i xs t => match wL[i]? with
  | some F => F rc xs t
  | none => none
theorem wL_k : ∀ F ∈ wL, ∀ xs t, Kn (fun rc => F rc xs t) := by
  unfold wL
  simp only [List.forall_mem_cons]
  exact ⟨fun _ _ => wM67_k, fun _ _ => wM97_k, fun _ _ => wM99_k, fun _ _ => wM101_k, fun _ _ => wM94_k, fun _ _ => wM79_k, fun _ _ => wM105_k, fun _ _ => wM108_k, fun _ _ => wM92_k, fun _ _ => wM95_k, fun _ _ => wM91_k, fun _ _ => wM84_k, fun _ _ => wM83_k, fun _ _ => wM88_k, fun _ _ => wM102_k, fun _ _ => wM90_k, fun _ _ => wM89_k, fun _ _ => wM93_k, fun _ _ => wM100_k, fun _ _ => wM85_k, fun _ _ => wM106_k, fun _ _ => wM104_k, fun _ _ => wM107_k, fun _ _ => wM87_k, fun _ _ => wM98_k, fun _ _ => wM96_k, fun _ _ => wM103_k, fun _ _ => wM110_k, fun _ _ => wM109_k, fun _ _ => wM86_k, fun _ _ => wM82_k, fun _ _ => wM78_k, fun _ _ => wM23_k, fun _ _ => wM27_k, fun _ _ => wM30_k, fun _ _ => wM29_k, fun _ _ => wM26_k, fun _ _ => wM114_k, fun _ _ => wM39_k, fun _ _ => wM62_k, fun _ _ => wM63_k, fun _ _ => wM113_k, fun _ _ => wM80_k, fun _ _ => wM81_k, fun _ _ => wM111_k, fun _ _ => wM112_k, fun _ _ => wM115_k, fun _ _ => wM18_k, fun _ _ => wM85_3_k, fun _ _ => wM98_6_k, fun _ _ => wM110_28_k, fun _ _ => wM82_45_k, fun _ _ => wM78_39_k, fun _ _ => wM78_61_k, fun _ _ => wM23_5_k, fun _ _ => wM114_4_k, fun _ _ => wM39_10_k, fun F hF => absurd hF (by simp)⟩
theorem wB_k (i : Nat) (xs : List Int) (t : tab) : Kn (fun rc => wB rc i xs t) := by
  unfold wB
  cases e : wL[i]? with
  | none => exact Kn_c
  | some F => exact wL_k F (List.mem_of_getElem? e) xs t
noncomputable def wG : MRq := lim wB
theorem wG_67 {t : tab} {a0 : Int} : wG 0 [a0] t = wM67 wG a0 t := lim_eq wB_k 0 _ t
theorem wG_97 {t : tab} {a0 : Int} : wG 1 [a0] t = wM97 wG a0 t := lim_eq wB_k 1 _ t
theorem wG_99 {t : tab} {a0 : Int} : wG 2 [a0] t = wM99 wG a0 t := lim_eq wB_k 2 _ t
theorem wG_101 {t : tab} {a0 : Int} : wG 3 [a0] t = wM101 wG a0 t := lim_eq wB_k 3 _ t
theorem wG_94 {t : tab} {a0 a1 : Int} : wG 4 [a0, a1] t = wM94 wG a0 a1 t := lim_eq wB_k 4 _ t
theorem wG_79 {t : tab} {a0 : Int} : wG 5 [a0] t = wM79 wG a0 t := lim_eq wB_k 5 _ t
theorem wG_105 {t : tab} {a0 a1 : Int} : wG 6 [a0, a1] t = wM105 wG a0 a1 t := lim_eq wB_k 6 _ t
theorem wG_108 {t : tab} {a0 : Int} : wG 7 [a0] t = wM108 wG a0 t := lim_eq wB_k 7 _ t
theorem wG_92 {t : tab} {a0 : Int} : wG 8 [a0] t = wM92 wG a0 t := lim_eq wB_k 8 _ t
theorem wG_95 {t : tab} {a0 a1 : Int} : wG 9 [a0, a1] t = wM95 wG a0 a1 t := lim_eq wB_k 9 _ t
theorem wG_91 {t : tab} {a0 a1 a2 : Int} : wG 10 [a0, a1, a2] t = wM91 wG a0 a1 a2 t := lim_eq wB_k 10 _ t
theorem wG_84 {t : tab} {a0 : Int} : wG 11 [a0] t = wM84 wG a0 t := lim_eq wB_k 11 _ t
theorem wG_83 {t : tab} {a0 a1 : Int} : wG 12 [a0, a1] t = wM83 wG a0 a1 t := lim_eq wB_k 12 _ t
theorem wG_88 {t : tab} {a0 a1 : Int} : wG 13 [a0, a1] t = wM88 wG a0 a1 t := lim_eq wB_k 13 _ t
theorem wG_102 {t : tab} {a0 a1 a2 : Int} : wG 14 [a0, a1, a2] t = wM102 wG a0 a1 a2 t := lim_eq wB_k 14 _ t
theorem wG_90 {t : tab} {a0 : Int} : wG 15 [a0] t = wM90 wG a0 t := lim_eq wB_k 15 _ t
theorem wG_89 {t : tab} {a0 : Int} : wG 16 [a0] t = wM89 wG a0 t := lim_eq wB_k 16 _ t
theorem wG_93 {t : tab} {a0 a1 : Int} : wG 17 [a0, a1] t = wM93 wG a0 a1 t := lim_eq wB_k 17 _ t
theorem wG_100 {t : tab} {a0 a1 a2 : Int} : wG 18 [a0, a1, a2] t = wM100 wG a0 a1 a2 t := lim_eq wB_k 18 _ t
theorem wG_85 {t : tab} {a0 : Int} : wG 19 [a0] t = wM85 wG a0 t := lim_eq wB_k 19 _ t
theorem wG_106 {t : tab} {a0 a1 a2 : Int} : wG 20 [a0, a1, a2] t = wM106 wG a0 a1 a2 t := lim_eq wB_k 20 _ t
theorem wG_104 {t : tab} {a0 a1 a2 : Int} : wG 21 [a0, a1, a2] t = wM104 wG a0 a1 a2 t := lim_eq wB_k 21 _ t
theorem wG_107 {t : tab} {a0 a1 : Int} : wG 22 [a0, a1] t = wM107 wG a0 a1 t := lim_eq wB_k 22 _ t
theorem wG_87 {t : tab} {a0 a1 : Int} : wG 23 [a0, a1] t = wM87 wG a0 a1 t := lim_eq wB_k 23 _ t
theorem wG_98 {t : tab} {a0 a1 a2 : Int} : wG 24 [a0, a1, a2] t = wM98 wG a0 a1 a2 t := lim_eq wB_k 24 _ t
theorem wG_96 {t : tab} {a0 a1 : Int} : wG 25 [a0, a1] t = wM96 wG a0 a1 t := lim_eq wB_k 25 _ t
theorem wG_103 {t : tab} {a0 a1 : Int} : wG 26 [a0, a1] t = wM103 wG a0 a1 t := lim_eq wB_k 26 _ t
theorem wG_110 {t : tab} {a0 a1 : Int} : wG 27 [a0, a1] t = wM110 wG a0 a1 t := lim_eq wB_k 27 _ t
theorem wG_109 {t : tab} {a0 a1 : Int} : wG 28 [a0, a1] t = wM109 wG a0 a1 t := lim_eq wB_k 28 _ t
theorem wG_86 {t : tab} {a0 : Int} : wG 29 [a0] t = wM86 wG a0 t := lim_eq wB_k 29 _ t
theorem wG_82 {t : tab} {a0 : Int} : wG 30 [a0] t = wM82 wG a0 t := lim_eq wB_k 30 _ t
theorem wG_78 {t : tab} : wG 31 [] t = wM78 wG t := lim_eq wB_k 31 _ t
theorem wG_23 {t : tab} {a0 a1 : Int} : wG 32 [a0, a1] t = wM23 wG a0 a1 t := lim_eq wB_k 32 _ t
theorem wG_27 {t : tab} {a0 : Int} : wG 33 [a0] t = wM27 wG a0 t := lim_eq wB_k 33 _ t
theorem wG_30 {t : tab} {a0 : Int} : wG 34 [a0] t = wM30 wG a0 t := lim_eq wB_k 34 _ t
theorem wG_29 {t : tab} {a0 : Int} : wG 35 [a0] t = wM29 wG a0 t := lim_eq wB_k 35 _ t
theorem wG_26 {t : tab} {a0 : Int} : wG 36 [a0] t = wM26 wG a0 t := lim_eq wB_k 36 _ t
theorem wG_114 {t : tab} : wG 37 [] t = wM114 wG t := lim_eq wB_k 37 _ t
theorem wG_39 {t : tab} {a0 a1 : Int} : wG 38 [a0, a1] t = wM39 wG a0 a1 t := lim_eq wB_k 38 _ t
theorem wG_62 {t : tab} {a0 : Int} : wG 39 [a0] t = wM62 wG a0 t := lim_eq wB_k 39 _ t
theorem wG_63 {t : tab} {a0 : Int} : wG 40 [a0] t = wM63 wG a0 t := lim_eq wB_k 40 _ t
theorem wG_113 {t : tab} {a0 : Int} : wG 41 [a0] t = wM113 wG a0 t := lim_eq wB_k 41 _ t
theorem wG_80 {t : tab} : wG 42 [] t = wM80 wG t := lim_eq wB_k 42 _ t
theorem wG_81 {t : tab} {a0 : Int} : wG 43 [a0] t = wM81 wG a0 t := lim_eq wB_k 43 _ t
theorem wG_111 {t : tab} {a0 a1 : Int} : wG 44 [a0, a1] t = wM111 wG a0 a1 t := lim_eq wB_k 44 _ t
theorem wG_112 {t : tab} {a0 : Int} : wG 45 [a0] t = wM112 wG a0 t := lim_eq wB_k 45 _ t
theorem wG_115 {t : tab} {a0 : Int} : wG 46 [a0] t = wM115 wG a0 t := lim_eq wB_k 46 _ t
theorem wG_18 {t : tab} {a0 : Int} : wG 47 [a0] t = wM18 wG a0 t := lim_eq wB_k 47 _ t
theorem wG_85_3 {t : tab} {a0 a1 : Int} : wG 48 [a0, a1] t = wM85_3 wG a0 a1 t := lim_eq wB_k 48 _ t
theorem wG_98_6 {t : tab} {a0 a1 a2 a3 : Int} : wG 49 [a0, a1, a2, a3] t = wM98_6 wG a0 a1 a2 a3 t := lim_eq wB_k 49 _ t
theorem wG_110_28 {t : tab} {a0 a1 a2 a3 : Int} : wG 50 [a0, a1, a2, a3] t = wM110_28 wG a0 a1 a2 a3 t := lim_eq wB_k 50 _ t
theorem wG_82_45 {t : tab} {a0 a1 : Int} : wG 51 [a0, a1] t = wM82_45 wG a0 a1 t := lim_eq wB_k 51 _ t
theorem wG_78_39 {t : tab} {a0 : Int} : wG 52 [a0] t = wM78_39 wG a0 t := lim_eq wB_k 52 _ t
theorem wG_78_61 {t : tab} {a0 : Int} : wG 53 [a0] t = wM78_61 wG a0 t := lim_eq wB_k 53 _ t
theorem wG_23_5 {t : tab} {a0 a1 a2 a3 : Int} : wG 54 [a0, a1, a2, a3] t = wM23_5 wG a0 a1 a2 a3 t := lim_eq wB_k 54 _ t
theorem wG_114_4 {t : tab} {a0 a1 : Int} : wG 55 [a0, a1] t = wM114_4 wG a0 a1 t := lim_eq wB_k 55 _ t
theorem wG_39_10 {t : tab} {a0 a1 a2 : Int} : wG 56 [a0, a1, a2] t = wM39_10 wG a0 a1 a2 t := lim_eq wB_k 56 _ t
def wT67 (K d C : Nat) : Prop := ∀ (s : rS) (t : tab) (x1 : Int), EE wP C t s → i32 x1 → pcr K d 67 [.ref C, vi x1] s (MQx wP C 3 (wG 0 [x1] t))
def wT97 (K d C : Nat) : Prop := ∀ (s : rS) (t : tab) (x1 : Int), EE wP C t s → i32 x1 → pcr K d 97 [.ref C, vi x1] s (MQx wP C 1 (wG 1 [x1] t))
def wT99 (K d C : Nat) : Prop := ∀ (s : rS) (t : tab) (x1 : Int), EE wP C t s → i32 x1 → pcr K d 99 [.ref C, vi x1] s (MQx wP C 1 (wG 2 [x1] t))
def wT101 (K d C : Nat) : Prop := ∀ (s : rS) (t : tab) (x1 : Int), EE wP C t s → i32 x1 → pcr K d 101 [.ref C, vi x1] s (MQx wP C 1 (wG 3 [x1] t))
def wT94 (K d C : Nat) : Prop := ∀ (s : rS) (t : tab) (x1 : Int) (x2 : Int), EE wP C t s → i32 x1 → i32 x2 → pcr K d 94 [.ref C, vi x1, vi x2] s (MQx wP C 1 (wG 4 [x1, x2] t))
def wT79 (K d C : Nat) : Prop := ∀ (s : rS) (t : tab) (x0 : Int), EE wP C t s → isQw x0.toNat → pcr K d 79 [.ref x0.toNat] s (MQx wP C 0 (wG 5 [x0] t))
def wT105 (K d C : Nat) : Prop := ∀ (s : rS) (t : tab) (x0 : Int) (x1 : Int), EE wP C t s → isQw x0.toNat → i32 x1 → pcr K d 105 [.ref x0.toNat, vi x1] s (MQx wP C 3 (wG 6 [x0, x1] t))
def wT108 (K d C : Nat) : Prop := ∀ (s : rS) (t : tab) (x0 : Int), EE wP C t s → isQw x0.toNat → pcr K d 108 [.ref x0.toNat] s (MQx wP C 1 (wG 7 [x0] t))
def wT92 (K d C : Nat) : Prop := ∀ (s : rS) (t : tab) (x0 : Int), EE wP C t s → 0 ≤ x0 ∧ x0 ≤ 1 → pcr K d 92 [vi x0] s (MQx wP C 1 (wG 8 [x0] t))
def wT95 (K d C : Nat) : Prop := ∀ (s : rS) (t : tab) (x0 : Int) (x1 : Int), EE wP C t s → i32 x0 → i32 x1 → pcr K d 95 [vi x0, vi x1] s (MQx wP C 1 (wG 9 [x0, x1] t))
def wT91 (K d C : Nat) : Prop := ∀ (s : rS) (t : tab) (x0 : Int) (x1 : Int) (x2 : Int), EE wP C t s → i32 x0 → i32 x1 → i32 x2 → pcr K d 91 [vi x0, vi x1, vi x2] s (MQx wP C 1 (wG 10 [x0, x1, x2] t))
def wT84 (K d C : Nat) : Prop := ∀ (s : rS) (t : tab) (x1 : Int), EE wP C t s → i32 x1 → pcr K d 84 [.ref 142, vi x1] s (MQx wP C 0 (wG 11 [x1] t))
def wT83 (K d C : Nat) : Prop := ∀ (s : rS) (t : tab) (x1 : Int) (x2 : Int), EE wP C t s → i32 x1 → i32 x2 → pcr K d 83 [.ref 142, vi x1, vi x2] s (MQx wP C 0 (wG 12 [x1, x2] t))
def wT88 (K d C : Nat) : Prop := ∀ (s : rS) (t : tab) (x1 : Int) (x2 : Int), EE wP C t s → i32 x1 → i32 x2 → pcr K d 88 [.ref 142, vi x1, vi x2] s (MQx wP C 0 (wG 13 [x1, x2] t))
def wT102 (K d C : Nat) : Prop := ∀ (s : rS) (t : tab) (x1 : Int) (x2 : Int) (x3 : Int), EE wP C t s → i32 x1 → i32 x2 → i32 x3 → pcr K d 102 [.ref 142, vi x1, vi x2, vi x3] s (MQx wP C 0 (wG 14 [x1, x2, x3] t))
def wT90 (K d C : Nat) : Prop := ∀ (s : rS) (t : tab) (x1 : Int), EE wP C t s → i32 x1 → pcr K d 90 [.ref 142, vi x1] s (MQx wP C 1 (wG 15 [x1] t))
def wT89 (K d C : Nat) : Prop := ∀ (s : rS) (t : tab) (x1 : Int), EE wP C t s → i32 x1 → pcr K d 89 [.ref 142, vi x1] s (MQx wP C 1 (wG 16 [x1] t))
def wT93 (K d C : Nat) : Prop := ∀ (s : rS) (t : tab) (x1 : Int) (x2 : Int), EE wP C t s → i32 x1 → i32 x2 → pcr K d 93 [.ref 142, vi x1, vi x2] s (MQx wP C 1 (wG 17 [x1, x2] t))
def wT100 (K d C : Nat) : Prop := ∀ (s : rS) (t : tab) (x1 : Int) (x2 : Int) (x3 : Int), EE wP C t s → i32 x1 → i32 x2 → i32 x3 → pcr K d 100 [.ref 142, vi x1, vi x2, vi x3] s (MQx wP C 0 (wG 18 [x1, x2, x3] t))
def wT85 (K d C : Nat) : Prop := ∀ (s : rS) (t : tab) (x1 : Int), EE wP C t s → isW x1.toNat → pcr K d 85 [.ref 142, .ref x1.toNat] s (MQx wP C 0 (wG 19 [x1] t))
def wU85_0 (N K d C : Nat) : Prop := ∀ (s : rS) (t : tab) (y2 : Int) (x1 : Int), EE wP C t s → i32 y2 → isW x1.toNat → pr N K d tb_M85 3 [(2, vi y2), (0, .ref 142), (1, .ref x1.toNat)] [] s (MQx wP C 0 (wG 48 [x1, y2] t))
def wU85_1 (N K d C : Nat) : Prop := ∀ (s : rS) (t : tab) (y2 : Int) (y3 : Int) (x1 : Int), EE wP C t s → i32 y2 → i32 y3 → isW x1.toNat → pr N K d tb_M85 3 [(2, vi y2), (3, vi y3), (0, .ref 142), (1, .ref x1.toNat)] [] s (MQx wP C 0 (wG 48 [x1, y2] t))
def wA85 (N K d C : Nat) : Prop := wU85_0 N K d C ∧ wU85_1 N K d C
def wT106 (K d C : Nat) : Prop := ∀ (s : rS) (t : tab) (x1 : Int) (x2 : Int) (x3 : Int), EE wP C t s → i32 x1 → i32 x2 → i32 x3 → pcr K d 106 [.ref 142, vi x1, vi x2, vi x3] s (MQx wP C 0 (wG 20 [x1, x2, x3] t))
def wT104 (K d C : Nat) : Prop := ∀ (s : rS) (t : tab) (x1 : Int) (x2 : Int) (x3 : Int), EE wP C t s → i32 x1 → i32 x2 → i32 x3 → pcr K d 104 [.ref 142, vi x1, vi x2, vi x3] s (MQx wP C 0 (wG 21 [x1, x2, x3] t))
def wT107 (K d C : Nat) : Prop := ∀ (s : rS) (t : tab) (x1 : Int) (x2 : Int), EE wP C t s → i32 x1 → i32 x2 → pcr K d 107 [.ref 142, vi x1, vi x2] s (MQx wP C 0 (wG 22 [x1, x2] t))
def wT87 (K d C : Nat) : Prop := ∀ (s : rS) (t : tab) (x1 : Int) (x2 : Int), EE wP C t s → i32 x1 → i32 x2 → pcr K d 87 [.ref 142, vi x1, vi x2] s (MQx wP C 0 (wG 23 [x1, x2] t))
def wT98 (K d C : Nat) : Prop := ∀ (s : rS) (t : tab) (x1 : Int) (x2 : Int) (x3 : Int), EE wP C t s → i32 x1 → i32 x2 → i32 x3 → pcr K d 98 [.ref 142, vi x1, vi x2, vi x3] s (MQx wP C 0 (wG 24 [x1, x2, x3] t))
def wU98_0 (N K d C : Nat) : Prop := ∀ (s : rS) (t : tab) (y5 : Int) (y4 : Int) (y1 : Int) (y2 : Int) (y3 : Int), EE wP C t s → i32 y5 → i32 y4 → i32 y1 → i32 y2 → i32 y3 → pr N K d tb_M98 6 [(5, vi y5), (4, vi y4), (0, .ref 142), (1, vi y1), (2, vi y2), (3, vi y3)] [] s (MQx wP C 0 (wG 49 [y1, y3, y4, y5] t))
def wA98 (N K d C : Nat) : Prop := wU98_0 N K d C
def wT96 (K d C : Nat) : Prop := ∀ (s : rS) (t : tab) (x1 : Int) (x2 : Int), EE wP C t s → i32 x1 → i32 x2 → pcr K d 96 [.ref 142, vi x1, vi x2] s (MQx wP C 0 (wG 25 [x1, x2] t))
def wT103 (K d C : Nat) : Prop := ∀ (s : rS) (t : tab) (x1 : Int) (x2 : Int), EE wP C t s → i32 x1 → i32 x2 → pcr K d 103 [.ref 142, vi x1, vi x2] s (MQx wP C 0 (wG 26 [x1, x2] t))
def wT110 (K d C : Nat) : Prop := ∀ (s : rS) (t : tab) (x1 : Int) (x2 : Int), EE wP C t s → i32 x1 → i32 x2 → pcr K d 110 [.ref 142, vi x1, vi x2] s (MQx wP C 0 (wG 27 [x1, x2] t))
def wU110_0 (N K d C : Nat) : Prop := ∀ (s : rS) (t : tab) (y5 : Int) (y4 : Int) (y3 : Int) (y1 : Int) (y2 : Int), EE wP C t s → i32 y5 → i32 y4 → i32 y3 → i32 y1 → i32 y2 → pr N K d tb_M110 28 [(5, vi y5), (4, vi y4), (3, vi y3), (0, .ref 142), (1, vi y1), (2, vi y2)] [] s (MQx wP C 0 (wG 50 [y1, y3, y4, y5] t))
def wA110 (N K d C : Nat) : Prop := wU110_0 N K d C
def wT109 (K d C : Nat) : Prop := ∀ (s : rS) (t : tab) (x1 : Int) (x2 : Int), EE wP C t s → i32 x1 → i32 x2 → pcr K d 109 [.ref 142, vi x1, vi x2] s (MQx wP C 0 (wG 28 [x1, x2] t))
def wT86 (K d C : Nat) : Prop := ∀ (s : rS) (t : tab) (x1 : Int), EE wP C t s → i32 x1 → pcr K d 86 [.ref 142, vi x1] s (MQx wP C 0 (wG 29 [x1] t))
def wT82 (K d C : Nat) : Prop := ∀ (s : rS) (t : tab) (x1 : Int), EE wP C t s → i32 x1 → pcr K d 82 [.ref 142, vi x1] s (MQx wP C 0 (wG 30 [x1] t))
def wU82_0 (N K d C : Nat) : Prop := ∀ (s : rS) (t : tab) (y2 : Int) (y1 : Int), EE wP C t s → i32 y2 → i32 y1 → pr N K d tb_M82 45 [(2, vi y2), (0, .ref 142), (1, vi y1)] [] s (MQx wP C 0 (wG 51 [y1, y2] t))
def wU82_1 (N K d C : Nat) : Prop := ∀ (s : rS) (t : tab) (y2 : Int) (y3 : Int) (y1 : Int), EE wP C t s → i32 y2 → i32 y3 → i32 y1 → pr N K d tb_M82 45 [(2, vi y2), (3, vi y3), (0, .ref 142), (1, vi y1)] [] s (MQx wP C 0 (wG 51 [y1, y2] t))
def wA82 (N K d C : Nat) : Prop := wU82_0 N K d C ∧ wU82_1 N K d C
def wT78 (K d C : Nat) : Prop := ∀ (s : rS) (t : tab), EE wP C t (up2 s.1 142 0 (C : Int), s.2) → pcr K d 78 [.ref 142, .ref C] s (MQx wP C 0 (wG 31 [] t))
def wU78_0 (N K d C : Nat) : Prop := ∀ (s : rS) (t : tab) (y2 : Int), EE wP C t s → i32 y2 → pr N K d tb_M78 39 [(2, vi y2), (0, .ref 142), (1, .ref C)] [] s (MQx wP C 0 (wG 52 [y2] t))
def wU78_1 (N K d C : Nat) : Prop := ∀ (s : rS) (t : tab) (y2 : Int), EE wP C t s → i32 y2 → pr N K d tb_M78 61 [(2, vi y2), (0, .ref 142), (1, .ref C)] [] s (MQx wP C 0 (wG 53 [y2] t))
def wA78 (N K d C : Nat) : Prop := wU78_0 N K d C ∧ wU78_1 N K d C
def wT23 (K d C : Nat) : Prop := ∀ (s : rS) (t : tab) (x0 : Int) (x1 : Int), EE wP C t s → isF x0.toNat → i32 x1 → pcr K d 23 [.ref x0.toNat, vi x1] s (MQx wP C 0 (wG 32 [x0, x1] t))
def wU23_0 (N K d C : Nat) : Prop := ∀ (s : rS) (t : tab) (y3 : Int) (y2 : Int) (x0 : Int) (y1 : Int), EE wP C t s → i32 y3 → i32 y2 → isF x0.toNat → i32 y1 → pr N K d tb_M23 5 [(3, vi y3), (2, vi y2), (0, .ref x0.toNat), (1, vi y1)] [] s (MQx wP C 0 (wG 54 [x0, y1, y2, y3] t))
def wU23_1 (N K d C : Nat) : Prop := ∀ (s : rS) (t : tab) (y2 : Int) (y3 : Int) (x0 : Int) (y1 : Int), EE wP C t s → i32 y2 → i32 y3 → isF x0.toNat → i32 y1 → pr N K d tb_M23 5 [(2, vi y2), (3, vi y3), (0, .ref x0.toNat), (1, vi y1)] [] s (MQx wP C 0 (wG 54 [x0, y1, y2, y3] t))
def wA23 (N K d C : Nat) : Prop := wU23_0 N K d C ∧ wU23_1 N K d C
def wT27 (K d C : Nat) : Prop := ∀ (s : rS) (t : tab) (x0 : Int), EE wP C t s → i32 x0 → pcr K d 27 [vi x0] s (MQx wP C 3 (wG 33 [x0] t))
def wT30 (K d C : Nat) : Prop := ∀ (s : rS) (t : tab) (x0 : Int), EE wP C t s → i32 x0 → pcr K d 30 [vi x0] s (MQx wP C 3 (wG 34 [x0] t))
def wT29 (K d C : Nat) : Prop := ∀ (s : rS) (t : tab) (x0 : Int), EE wP C t s → i32 x0 → pcr K d 29 [vi x0] s (MQx wP C 3 (wG 35 [x0] t))
def wT26 (K d C : Nat) : Prop := ∀ (s : rS) (t : tab) (x1 : Int), EE wP C t s → i32 x1 → pcr K d 26 [.ref 97, vi x1] s (MQx wP C 1 (wG 36 [x1] t))
def wT114 (K d C : Nat) : Prop := ∀ (s : rS) (t : tab) , EE wP C t s → pcr K d 114 [.ref 97] s (MQx wP C 2 (wG 37 [] t))
def wU114_0 (N K d C : Nat) : Prop := ∀ (s : rS) (t : tab) (y3 : Int) (y1 : Int), EE wP C t s → i32 y3 → i64 y1 → pr N K d tb_M114 4 [(3, vi y3), (1, vl y1), (0, .ref 97)] [] s (MQx wP C 2 (wG 55 [y1, y3] t))
def wA114 (N K d C : Nat) : Prop := wU114_0 N K d C
def wT39 (K d C : Nat) : Prop := ∀ (s : rS) (t : tab) (x1 : Int) (x3 : Int), EE wP C t s → i64 x1 → i32 x3 → pcr K d 39 [.ref (C + 6), vl x1, vi x3] s (MQx wP C 1 (wG 38 [x1, x3] t))
def wU39_0 (N K d C : Nat) : Prop := ∀ (s : rS) (t : tab) (y5 : Int) (y4 : Int) (y1 : Int) (y3 : Int), EE wP C t s → i32 y5 → i32 y4 → i64 y1 → i32 y3 → pr N K d tb_M39 10 [(5, vi y5), (4, vi y4), (0, .ref (C + 6)), (1, vl y1), (3, vi y3)] [] s (MQx wP C 1 (wG 56 [y1, y4, y5] t))
def wA39 (N K d C : Nat) : Prop := wU39_0 N K d C
def wT62 (K d C : Nat) : Prop := ∀ (s : rS) (t : tab) (x1 : Int), EE wP C t s → i32 x1 → pcr K d 62 [.ref (C + 6), vi x1] s (MQx wP C 1 (wG 39 [x1] t))
def wT63 (K d C : Nat) : Prop := ∀ (s : rS) (t : tab) (x1 : Int), EE wP C t s → i32 x1 → pcr K d 63 [.ref (C + 6), vi x1] s (MQx wP C 1 (wG 40 [x1] t))
def wT113 (K d C : Nat) : Prop := ∀ (s : rS) (t : tab) (x1 : Int), EE wP C t s → t 96 1 = (C : Int) → i32 x1 → pcr K d 113 [.ref 96, vi x1] s (MQx wP C 2 (wG 41 [x1] t))
def wT80 (K d C : Nat) : Prop := ∀ (s : rS) (t : tab), EE wP C t s → t 96 1 = (C : Int) → pcr K d 80 [.ref 96] s (MQx wP C 1 (wG 42 [] t))
def wT81 (K d C : Nat) : Prop := ∀ (s : rS) (t : tab) (x1 : Int), EE wP C t s → t 96 1 = (C : Int) → i32 x1 → pcr K d 81 [.ref 96, vi x1] s (MQx wP C 1 (wG 43 [x1] t))
def wT111 (K d C : Nat) : Prop := ∀ (s : rS) (t : tab) (x1 x2 : Int), EE wP C t s → t 96 1 = (C : Int) → i32 x1 → i32 x2 → pcr K d 111 [.ref 96, vi x1, vi x2] s (MQx wP C 1 (wG 44 [x1, x2] t))
def wT112 (K d C : Nat) : Prop := ∀ (s : rS) (t : tab) (x1 : Int), EE wP C t s → t 96 1 = (C : Int) → i32 x1 → pcr K d 112 [.ref 96, vi x1] s (MQx wP C 2 (wG 45 [x1] t))
def wT115 (K d C : Nat) : Prop := ∀ (s : rS) (t : tab) (x1 : Int), EE wP C t s → t 96 1 = (C : Int) → i32 x1 → pcr K d 115 [.ref 96, vi x1] s (MQx wP C 1 (wG 46 [x1] t))
def wT18 (K d C : Nat) : Prop := ∀ (s : rS) (t : tab) (x1 : Int), EE wP C t s → t 96 1 = (C : Int) → i32 x1 → pcr K d 18 [.ref 96, vi x1] s (MQx wP C 1 (wG 47 [x1] t))
