/-! Models of the reference's methods. -/
/-- in -/
def rM120 (rc : MRq) (x0 x2 x4 : Int) (t : tab) : RO :=
  if x0 < x2 then
    (some (some (0, t)))
  else
    (if x4 < x0 then
      (some (some (0, t)))
    else
      (some (some (1, t))))
theorem rM120_k {x0 x2 x4 : Int} {t : tab} : Kn (fun rc => rM120 rc x0 x2 x4 t) := by
  unfold rM120
  exact (Kn_if Kn_c (Kn_if Kn_c Kn_c))
/-- isSmall -/
def rM124 (rc : MRq) (x0 : Int) (t : tab) : RO :=
  if x0 < 97 then
    (some (some (0, t)))
  else
    (if 122 < x0 then
      (some (some (0, t)))
    else
      (some (some (1, t))))
theorem rM124_k {x0 : Int} {t : tab} : Kn (fun rc => rM124 rc x0 t) := by
  unfold rM124
  exact (Kn_if Kn_c (Kn_if Kn_c Kn_c))
/-- isDigit -/
def rM125 (rc : MRq) (x0 : Int) (t : tab) : RO :=
  if x0 < 48 then
    (some (some (0, t)))
  else
    (if 57 < x0 then
      (some (some (0, t)))
    else
      (some (some (1, t))))
theorem rM125_k {x0 : Int} {t : tab} : Kn (fun rc => rM125 rc x0 t) := by
  unfold rM125
  exact (Kn_if Kn_c (Kn_if Kn_c Kn_c))
/-- isReserved -/
def rM126 (rc : MRq) (t : tab) : RO :=
  rc 40 [imi (t 170 6) (t 170 5), 0] t
theorem rM126_k {t : tab} : Kn (fun rc => rM126 rc t) := by
  unfold rM126
  exact Kn_r
/-- isReserved, at 15 -/
def rM126_15 (rc : MRq) (y2 y3 : Int) (t : tab) : RO :=
  if txn (4 : Int) ≤ ipl (ipl y3 y2) 1 then
    (some (some (0, t)))
  else
    (if txc (4 : Int) y3 ≠ 32 then
      (rc 41 [y2, y3, 0, 0] t)
    else
      (if txc (4 : Int) (ipl (ipl y3 y2) 1) ≠ 32 then
        (rc 41 [y2, y3, 0, 0] t)
      else
        (rc 41 [y2, y3, 1, 0] t)))
theorem rM126_15_k {y2 y3 : Int} {t : tab} : Kn (fun rc => rM126_15 rc y2 y3 t) := by
  unfold rM126_15
  exact (Kn_if Kn_c (Kn_if Kn_r (Kn_if Kn_r Kn_r)))
/-- isReserved, at 61 -/
def rM126_61 (rc : MRq) (y2 y3 y4 y5 : Int) (t : tab) : RO :=
  if y2 ≤ y5 then
    (if y4 = 0 then
      (rc 40 [y2, ipl y3 1] t)
    else
      (some (some (1, t))))
  else
    (if y4 = 0 then
      (rc 40 [y2, ipl y3 1] t)
    else
      (if txc (4 : Int) (ipl (ipl y3 1) y5) ≠ t 171 ((ipl (t 170 5) y5).toNat) then
        (rc 41 [y2, y3, 0, y5 + 1] t)
      else
        (rc 41 [y2, y3, 1, y5 + 1] t)))
theorem rM126_61_k {y2 y3 y4 y5 : Int} {t : tab} : Kn (fun rc => rM126_61 rc y2 y3 y4 y5 t) := by
  unfold rM126_61
  exact (Kn_if (Kn_if Kn_r Kn_c) (Kn_if Kn_r (Kn_if Kn_r Kn_r)))
/-- step -/
def rM123 (rc : MRq) (t : tab) : RO :=
  rc 42 [] t
theorem rM123_k {t : tab} : Kn (fun rc => rM123 rc t) := by
  unfold rM123
  exact Kn_r
/-- step, at 99999 -/
def rM123_99999 (rc : MRq) (t : tab) : RO :=
  if t 170 2 ≤ t 170 3 then
    (if t 170 3 ≠ t 170 2 then
      (if ltz (t 171 ((t 170 3).toNat)) = 0 then
        (if dgz (t 171 ((t 170 3).toNat)) = 0 then
          (if t 170 2 ≤ ipl (t 170 3) 1 then
            (rc 43 [t 171 ((t 170 3).toNat), 0] (up2 t 170 5 (t 170 3)))
          else
            (rc 43 [t 171 ((t 170 3).toNat), t 171 ((ipl (t 170 3) 1).toNat)] (up2 t 170 5 (t 170 3))))
        else
          (rc 44 [] (up2 (up2 t 170 5 (t 170 3)) 170 7 0)))
      else
        (rc 45 [] (up2 t 170 5 (t 170 3))))
    else
      (some (some (0, up2 (up2 (up2 t 170 5 (t 170 3)) 170 4 0) 170 6 (t 170 3)))))
  else
    (if t 171 ((t 170 3).toNat) = 32 then
      (rc 42 [] (up2 t 170 3 (ipl (t 170 3) 1)))
    else
      (if t 171 ((t 170 3).toNat) ≠ 10 then
        (if t 170 3 ≠ t 170 2 then
          (if ltz (t 171 ((t 170 3).toNat)) = 0 then
            (if dgz (t 171 ((t 170 3).toNat)) = 0 then
              (if t 170 2 ≤ ipl (t 170 3) 1 then
                (rc 43 [t 171 ((t 170 3).toNat), 0] (up2 t 170 5 (t 170 3)))
              else
                (rc 43 [t 171 ((t 170 3).toNat), t 171 ((ipl (t 170 3) 1).toNat)] (up2 t 170 5 (t 170 3))))
            else
              (rc 44 [] (up2 (up2 t 170 5 (t 170 3)) 170 7 0)))
          else
            (rc 45 [] (up2 t 170 5 (t 170 3))))
        else
          (some (some (0, up2 (up2 (up2 t 170 5 (t 170 3)) 170 4 0) 170 6 (t 170 3)))))
      else
        (rc 42 [] (up2 t 170 3 (ipl (t 170 3) 1)))))
theorem rM123_99999_k {t : tab} : Kn (fun rc => rM123_99999 rc t) := by
  unfold rM123_99999
  exact (Kn_if (Kn_if (Kn_if (Kn_if (Kn_if Kn_r Kn_r) Kn_r) Kn_r) Kn_c) (Kn_if Kn_r (Kn_if (Kn_if (Kn_if (Kn_if (Kn_if Kn_r Kn_r) Kn_r) Kn_r) Kn_c) Kn_r)))
/-- step, at 340 -/
def rM123_340 (rc : MRq) (y1 ys0 : Int) (t : tab) : RO :=
  if y1 = 123 then
    (rc 46 [y1, ys0, 1] t)
  else
    (if y1 = 125 then
      (rc 46 [y1, ys0, 1] t)
    else
      (if y1 = 40 then
        (rc 46 [y1, ys0, 1] t)
      else
        (if y1 = 41 then
          (rc 46 [y1, ys0, 1] t)
        else
          (if y1 = 91 then
            (rc 46 [y1, ys0, 1] t)
          else
            (if y1 = 93 then
              (rc 46 [y1, ys0, 1] t)
            else
              (if y1 = 44 then
                (rc 46 [y1, ys0, 1] t)
              else
                (if y1 = 59 then
                  (rc 46 [y1, ys0, 1] t)
                else
                  (if y1 = 58 then
                    (rc 46 [y1, ys0, 1] t)
                  else
                    (if y1 = 61 then
                      (rc 46 [y1, ys0, 1] t)
                    else
                      (if y1 = 43 then
                        (rc 46 [y1, ys0, 1] t)
                      else
                        (if y1 = 45 then
                          (rc 46 [y1, ys0, 1] t)
                        else
                          (if y1 = 42 then
                            (rc 46 [y1, ys0, 1] t)
                          else
                            (if y1 = 47 then
                              (rc 46 [y1, ys0, 1] t)
                            else
                              (if y1 = 37 then
                                (rc 46 [y1, ys0, 1] t)
                              else
                                (if y1 = 38 then
                                  (rc 46 [y1, ys0, 1] t)
                                else
                                  (if y1 = 124 then
                                    (rc 46 [y1, ys0, 1] t)
                                  else
                                    (if y1 = 94 then
                                      (rc 46 [y1, ys0, 1] t)
                                    else
                                      (if y1 = 126 then
                                        (rc 46 [y1, ys0, 1] t)
                                      else
                                        (if y1 = 33 then
                                          (rc 46 [y1, ys0, 1] t)
                                        else
                                          (if y1 = 63 then
                                            (rc 46 [y1, ys0, 1] t)
                                          else
                                            (if y1 = 60 then
                                              (rc 46 [y1, ys0, 1] t)
                                            else
                                              (if y1 ≠ 62 then
                                                (rc 46 [y1, ys0, 0] t)
                                              else
                                                (rc 46 [y1, ys0, 1] t)))))))))))))))))))))))
theorem rM123_340_k {y1 ys0 : Int} {t : tab} : Kn (fun rc => rM123_340 rc y1 ys0 t) := by
  unfold rM123_340
  exact (Kn_if Kn_r (Kn_if Kn_r (Kn_if Kn_r (Kn_if Kn_r (Kn_if Kn_r (Kn_if Kn_r (Kn_if Kn_r (Kn_if Kn_r (Kn_if Kn_r (Kn_if Kn_r (Kn_if Kn_r (Kn_if Kn_r (Kn_if Kn_r (Kn_if Kn_r (Kn_if Kn_r (Kn_if Kn_r (Kn_if Kn_r (Kn_if Kn_r (Kn_if Kn_r (Kn_if Kn_r (Kn_if Kn_r (Kn_if Kn_r (Kn_if Kn_r Kn_r)))))))))))))))))))))))
/-- step, at 213 -/
def rM123_213 (rc : MRq) (t : tab) : RO :=
  if t 170 2 ≤ t 170 3 then
    (if 65535 < t 170 7 then
      (some (some (0, up2 (up2 t 170 4 5) 170 6 (t 170 3))))
    else
      (some (some (0, up2 (up2 t 170 4 3) 170 6 (t 170 3)))))
  else
    (if dgz (t 171 ((t 170 3).toNat)) = 0 then
      (if 65535 < t 170 7 then
        (some (some (0, up2 (up2 t 170 4 5) 170 6 (t 170 3))))
      else
        (some (some (0, up2 (up2 t 170 4 3) 170 6 (t 170 3)))))
    else
      (rc 44 [] (up2 (up2 t 170 7 (mnx 100000 (imi (ipl (imu 10 (t 170 7)) (t 171 ((t 170 3).toNat))) 48))) 170 3 (ipl (t 170 3) 1))))
theorem rM123_213_k {t : tab} : Kn (fun rc => rM123_213 rc t) := by
  unfold rM123_213
  exact (Kn_if (Kn_if Kn_c Kn_c) (Kn_if (Kn_if Kn_c Kn_c) Kn_r))
/-- step, at 94 -/
def rM123_94 (rc : MRq) (t : tab) : RO :=
  if t 170 2 ≤ t 170 3 then
    (bo (rc 3 [] (up2 t 170 6 (t 170 3))) fun z6 t6 =>
    if z6 = 0 then
      (if 8 < imi (t 170 3) (t 170 5) then
        (some (some (0, up2 (up2 (up2 t 170 6 (t 170 3)) 170 4 5) 170 6 (t 170 3))))
      else
        (some (some (0, up2 (up2 (up2 t 170 6 (t 170 3)) 170 4 1) 170 6 (t 170 3)))))
    else
      (some (some (0, up2 (up2 (up2 t 170 6 (t 170 3)) 170 4 2) 170 6 (t 170 3)))))
  else
    (if ltz (t 171 ((t 170 3).toNat)) ≠ 0 then
      (rc 45 [] (up2 t 170 3 (ipl (t 170 3) 1)))
    else
      (if dgz (t 171 ((t 170 3).toNat)) = 0 then
        (bo (rc 3 [] (up2 t 170 6 (t 170 3))) fun z38 t38 =>
        if z38 = 0 then
          (if 8 < imi (t 170 3) (t 170 5) then
            (some (some (0, up2 (up2 (up2 t 170 6 (t 170 3)) 170 4 5) 170 6 (t 170 3))))
          else
            (some (some (0, up2 (up2 (up2 t 170 6 (t 170 3)) 170 4 1) 170 6 (t 170 3)))))
        else
          (some (some (0, up2 (up2 (up2 t 170 6 (t 170 3)) 170 4 2) 170 6 (t 170 3)))))
      else
        (rc 45 [] (up2 t 170 3 (ipl (t 170 3) 1)))))
theorem rM123_94_k {t : tab} : Kn (fun rc => rM123_94 rc t) := by
  unfold rM123_94
  exact (Kn_if (Kn_bo Kn_r fun _ _ => (Kn_if (Kn_if Kn_c Kn_c) Kn_c)) (Kn_if Kn_r (Kn_if (Kn_bo Kn_r fun _ _ => (Kn_if (Kn_if Kn_c Kn_c) Kn_c)) Kn_r)))
/-- step, at 484 -/
def rM123_484 (rc : MRq) (y1 y2 ys0 : Int) (t : tab) : RO :=
  if y2 ≠ 61 then
    (if y2 ≠ y1 then
      (rc 47 [ys0, 0] t)
    else
      (if y1 = 38 then
        (rc 47 [ys0, 1] t)
      else
        (if y1 = 124 then
          (rc 47 [ys0, 1] t)
        else
          (if y1 = 60 then
            (rc 47 [ys0, 1] t)
          else
            (if y1 ≠ 62 then
              (rc 47 [ys0, 0] t)
            else
              (rc 47 [ys0, 1] t))))))
  else
    (if y1 = 61 then
      (rc 47 [ys0, 1] t)
    else
      (if y1 = 33 then
        (rc 47 [ys0, 1] t)
      else
        (if y1 = 60 then
          (rc 47 [ys0, 1] t)
        else
          (if y1 = 62 then
            (rc 47 [ys0, 1] t)
          else
            (if y2 ≠ y1 then
              (rc 47 [ys0, 0] t)
            else
              (if y1 = 38 then
                (rc 47 [ys0, 1] t)
              else
                (if y1 = 124 then
                  (rc 47 [ys0, 1] t)
                else
                  (rc 47 [ys0, 0] t))))))))
theorem rM123_484_k {y1 y2 ys0 : Int} {t : tab} : Kn (fun rc => rM123_484 rc y1 y2 ys0 t) := by
  unfold rM123_484
  exact (Kn_if (Kn_if Kn_r (Kn_if Kn_r (Kn_if Kn_r (Kn_if Kn_r (Kn_if Kn_r Kn_r))))) (Kn_if Kn_r (Kn_if Kn_r (Kn_if Kn_r (Kn_if Kn_r (Kn_if Kn_r (Kn_if Kn_r (Kn_if Kn_r Kn_r))))))))
/-- step, at 549 -/
def rM123_549 (rc : MRq) (y3 ys0 : Int) (t : tab) : RO :=
  if y3 = 0 then
    (if ys0 = 0 then
      (some (some (0, up2 (up2 (up2 t 170 4 5) 170 3 (ipl (t 170 3) 1)) 170 6 (ipl (t 170 3) 1))))
    else
      (some (some (0, up2 (up2 (up2 t 170 4 5) 170 3 (ipl (t 170 3) 2)) 170 6 (ipl (t 170 3) 2)))))
  else
    (if ys0 = 0 then
      (some (some (0, up2 (up2 (up2 t 170 4 4) 170 3 (ipl (t 170 3) 1)) 170 6 (ipl (t 170 3) 1))))
    else
      (some (some (0, up2 (up2 (up2 t 170 4 4) 170 3 (ipl (t 170 3) 2)) 170 6 (ipl (t 170 3) 2)))))
theorem rM123_549_k {y3 ys0 : Int} {t : tab} : Kn (fun rc => rM123_549 rc y3 ys0 t) := by
  unfold rM123_549
  exact (Kn_if (Kn_if Kn_c Kn_c) (Kn_if Kn_c Kn_c))
/-- is -/
def rM127 (rc : MRq) (x1 : Int) (t : tab) : RO :=
  if t 170 4 = 2 then
    (if imi (t 170 6) (t 170 5) = txn (x1 : Int) then
      (rc 48 [(x1 : Int), 0] t)
    else
      (some (some (0, t))))
  else
    (if t 170 4 ≠ 4 then
      (some (some (0, t)))
    else
      (if imi (t 170 6) (t 170 5) = txn (x1 : Int) then
        (rc 48 [(x1 : Int), 0] t)
      else
        (some (some (0, t)))))
theorem rM127_k {x1 : Int} {t : tab} : Kn (fun rc => rM127 rc x1 t) := by
  unfold rM127
  exact (Kn_if (Kn_if Kn_r Kn_c) (Kn_if Kn_c (Kn_if Kn_r Kn_c)))
/-- is, at 36 -/
def rM127_36 (rc : MRq) (x1 y2 : Int) (t : tab) : RO :=
  if txn (x1 : Int) ≤ y2 then
    (some (some (1, t)))
  else
    (if t 171 ((ipl (t 170 5) y2).toNat) = txc (x1 : Int) y2 then
      (rc 48 [(x1 : Int), y2 + 1] t)
    else
      (some (some (0, t))))
theorem rM127_36_k {x1 y2 : Int} {t : tab} : Kn (fun rc => rM127_36 rc x1 y2 t) := by
  unfold rM127_36
  exact (Kn_if Kn_c (Kn_if Kn_r Kn_c))
/-- bad -/
def rM132 (rc : MRq) (t : tab) : RO :=
  some (some (0, t))
theorem rM132_k {t : tab} : Kn (fun rc => rM132 rc t) := by
  unfold rM132
  exact Kn_c
/-- bad -/
def rM131 (rc : MRq) (t : tab) : RO :=
  some (some (0, t))
theorem rM131_k {t : tab} : Kn (fun rc => rM131 rc t) := by
  unfold rM131
  exact Kn_c
/-- take -/
def rM136 (rc : MRq) (x1 : Int) (t : tab) : RO :=
  bo (rc 5 [(x1 : Int)] t) fun z1 t1 =>
  if z1 ≠ 0 then
    (bo (rc 4 [] t) fun z3 t3 =>
    some (some (1, t3)))
  else
    (some (some (0, t)))
theorem rM136_k {x1 : Int} {t : tab} : Kn (fun rc => rM136 rc x1 t) := by
  unfold rM136
  exact (Kn_bo Kn_r fun _ _ => (Kn_if (Kn_bo Kn_r fun _ _ => Kn_c) Kn_c))
/-- find -/
def rM134 (rc : MRq) (t : tab) : RO :=
  rc 49 [imi (t 170 14) 1] t
theorem rM134_k {t : tab} : Kn (fun rc => rM134 rc t) := by
  unfold rM134
  exact Kn_r
/-- find, at 7 -/
def rM134_7 (rc : MRq) (y1 : Int) (t : tab) : RO :=
  if y1 < 0 then
    (some (some ((-1), t)))
  else
    (if imi (t 173 y1.toNat) (t 172 y1.toNat) ≠ imi (t 170 6) (t 170 5) then
      (rc 50 [y1, 0, 0] t)
    else
      (rc 50 [y1, 1, 0] t))
theorem rM134_7_k {y1 : Int} {t : tab} : Kn (fun rc => rM134_7 rc y1 t) := by
  unfold rM134_7
  exact (Kn_if Kn_c (Kn_if Kn_r Kn_r))
/-- find, at 44 -/
def rM134_44 (rc : MRq) (y1 y2 y3 : Int) (t : tab) : RO :=
  if imi (t 170 6) (t 170 5) ≤ y3 then
    (if y2 = 0 then
      (rc 49 [ipl y1 (-1)] t)
    else
      (some (some (y1, t))))
  else
    (if y2 = 0 then
      (rc 49 [ipl y1 (-1)] t)
    else
      (if t 171 ((ipl (t 172 y1.toNat) y3).toNat) ≠ t 171 ((ipl (t 170 5) y3).toNat) then
        (rc 50 [y1, 0, y3 + 1] t)
      else
        (rc 50 [y1, 1, y3 + 1] t)))
theorem rM134_44_k {y1 y2 y3 : Int} {t : tab} : Kn (fun rc => rM134_44 rc y1 y2 y3 t) := by
  unfold rM134_44
  exact (Kn_if (Kn_if Kn_r Kn_c) (Kn_if Kn_r (Kn_if Kn_r Kn_r)))
/-- declare -/
def rM133 (rc : MRq) (x1 x2 : Int) (t : tab) : RO :=
  bo (rc 9 [] t) fun z1 t1 =>
  if z1 < 0 then
    (bo (rc 4 [] (up2 (up2 (up2 (up2 (up2 (up2 t 172 ((t 170 14).toNat) (t 170 5)) 173 ((t 170 14).toNat) (t 170 6)) 174 ((t 170 14).toNat) x1) 175 ((t 170 14).toNat) x2) 176 ((t 170 14).toNat) (t 170 15)) 170 14 (ipl (t 170 14) 1))) fun z29 t29 =>
    some (some (1, t29)))
  else
    (if t 176 z1.toNat ≠ t 170 15 then
      (bo (rc 4 [] (up2 (up2 (up2 (up2 (up2 (up2 t 172 ((t 170 14).toNat) (t 170 5)) 173 ((t 170 14).toNat) (t 170 6)) 174 ((t 170 14).toNat) x1) 175 ((t 170 14).toNat) x2) 176 ((t 170 14).toNat) (t 170 15)) 170 14 (ipl (t 170 14) 1))) fun z61 t61 =>
      some (some (1, t61)))
    else
      (some (some (0, t))))
theorem rM133_k {x1 x2 : Int} {t : tab} : Kn (fun rc => rM133 rc x1 x2 t) := by
  unfold rM133
  exact (Kn_bo Kn_r fun _ _ => (Kn_if (Kn_bo Kn_r fun _ _ => Kn_c) (Kn_if (Kn_bo Kn_r fun _ _ => Kn_c) Kn_c)))
/-- put -/
def rM140 (rc : MRq) (x1 : Int) (t : tab) : RO :=
  some (some (imi (ipl (t 177 1) 1) 1, up2 (up2 t 178 ((t 177 1).toNat) x1) 177 1 (ipl (t 177 1) 1)))
theorem rM140_k {x1 : Int} {t : tab} : Kn (fun rc => rM140 rc x1 t) := by
  unfold rM140
  exact Kn_c
/-- put -/
def rM147 (rc : MRq) (x1 x2 : Int) (t : tab) : RO :=
  some (some (0, (pt1 ((pt1 t x1)) x2)))
theorem rM147_k {x1 x2 : Int} {t : tab} : Kn (fun rc => rM147 rc x1 x2 t) := by
  unfold rM147
  exact Kn_c
/-- part -/
def rM142 (rc : MRq) (t : tab) : RO :=
  some (some (0, up2 ((pt1 t 0)) 177 3 (ipl (t 177 3) 1)))
theorem rM142_k {t : tab} : Kn (fun rc => rM142 rc t) := by
  unfold rM142
  exact Kn_c
/-- forget -/
def rM138 (rc : MRq) (t : tab) : RO :=
  some (some (0, up2 (up2 (up2 (up2 (up2 t 170 22 0) 170 23 0) 170 24 0) 170 25 0) 170 26 0))
theorem rM138_k {t : tab} : Kn (fun rc => rM138 rc t) := by
  unfold rM138
  exact Kn_c
/-- open -/
def rM135 (rc : MRq) (t : tab) : RO :=
  some (some (0, up2 (up2 t 170 15 (t 170 16)) 170 16 (ipl (t 170 16) 1)))
theorem rM135_k {t : tab} : Kn (fun rc => rM135 rc t) := by
  unfold rM135
  exact Kn_c
/-- isName -/
def rM130 (rc : MRq) (x1 x2 : Int) (t : tab) : RO :=
  if t 170 4 ≠ 1 then
    (some (some (0, t)))
  else
    (if x1 < x2 then
      (some (some (1, t)))
    else
      (some (some (0, t))))
theorem rM130_k {x1 x2 : Int} {t : tab} : Kn (fun rc => rM130 rc x1 x2 t) := by
  unfold rM130
  exact (Kn_if Kn_c (Kn_if Kn_c Kn_c))
/-- variable -/
def rM137 (rc : MRq) (x1 : Int) (t : tab) : RO :=
  bo (rc 16 [t 177 4, 24] t) fun z2 t2 =>
  if z2 = 0 then
    (some (some (0, t)))
  else
    (bo (rc 10 [0, t 177 4] t) fun z5 t5 =>
    if z5 ≠ 0 then
      (some (some (1, up2 (up2 t5 179 ((t5 177 4).toNat) x1) 177 4 (ipl (t5 177 4) 1))))
    else
      (some (some (0, t5))))
theorem rM137_k {x1 : Int} {t : tab} : Kn (fun rc => rM137 rc x1 t) := by
  unfold rM137
  exact (Kn_bo Kn_r fun _ _ => (Kn_if Kn_c (Kn_bo Kn_r fun _ _ => (Kn_if Kn_c Kn_c))))
/-- store -/
def rM158 (rc : MRq) (x1 x2 : Int) (t : tab) : RO :=
  if x1 ≠ 0 then
    (some (some (0, (pt2 t 6 x2))))
  else
    (some (some (0, (pt2 t 5 x2))))
theorem rM158_k {x1 x2 : Int} {t : tab} : Kn (fun rc => rM158 rc x1 x2 t) := by
  unfold rM158
  exact (Kn_if Kn_c Kn_c)
/-- isBehind -/
def rM148 (rc : MRq) (x1 : Int) (t : tab) : RO :=
  rc 51 [x1, t 170 3] t
theorem rM148_k {x1 : Int} {t : tab} : Kn (fun rc => rM148 rc x1 t) := by
  unfold rM148
  exact Kn_r
/-- isBehind, at 5 -/
def rM148_5 (rc : MRq) (y1 y2 : Int) (t : tab) : RO :=
  if t 170 2 ≤ y2 then
    (if y2 = t 170 2 then
      (some (some (0, t)))
    else
      (if t 171 y2.toNat = y1 then
        (if ipl y2 1 = t 170 2 then
          (some (some (1, t)))
        else
          (if t 171 ((ipl y2 1).toNat) ≠ 61 then
            (some (some (1, t)))
          else
            (if y1 = 61 then
              (some (some (0, t)))
            else
              (if y1 = 33 then
                (some (some (0, t)))
              else
                (some (some (1, t)))))))
      else
        (some (some (0, t)))))
  else
    (if t 171 y2.toNat = 32 then
      (rc 51 [y1, y2 + 1] t)
    else
      (if t 171 y2.toNat ≠ 10 then
        (if y2 = t 170 2 then
          (some (some (0, t)))
        else
          (if t 171 y2.toNat = y1 then
            (if ipl y2 1 = t 170 2 then
              (some (some (1, t)))
            else
              (if t 171 ((ipl y2 1).toNat) ≠ 61 then
                (some (some (1, t)))
              else
                (if y1 = 61 then
                  (some (some (0, t)))
                else
                  (if y1 = 33 then
                    (some (some (0, t)))
                  else
                    (some (some (1, t)))))))
          else
            (some (some (0, t)))))
      else
        (rc 51 [y1, y2 + 1] t)))
theorem rM148_5_k {y1 y2 : Int} {t : tab} : Kn (fun rc => rM148_5 rc y1 y2 t) := by
  unfold rM148_5
  exact (Kn_if (Kn_if Kn_c (Kn_if (Kn_if Kn_c (Kn_if Kn_c (Kn_if Kn_c (Kn_if Kn_c Kn_c)))) Kn_c)) (Kn_if Kn_r (Kn_if (Kn_if Kn_c (Kn_if (Kn_if Kn_c (Kn_if Kn_c (Kn_if Kn_c (Kn_if Kn_c Kn_c)))) Kn_c)) Kn_r)))
/-- levelOf -/
def rM151 (rc : MRq) (t : tab) : RO :=
  bo (rc 5 [(46 : Int)] t) fun z1 t1 =>
  if z1 = 0 then
    (bo (rc 5 [(48 : Int)] t) fun z3 t3 =>
    if z3 = 0 then
      (bo (rc 5 [(50 : Int)] t) fun z5 t5 =>
      if z5 = 0 then
        (bo (rc 5 [(52 : Int)] t) fun z7 t7 =>
        if z7 = 0 then
          (bo (rc 5 [(54 : Int)] t) fun z9 t9 =>
          if z9 = 0 then
            (bo (rc 5 [(56 : Int)] t) fun z11 t11 =>
            if z11 ≠ 0 then
              (some (some (5, t)))
            else
              (bo (rc 5 [(58 : Int)] t) fun z13 t13 =>
              if z13 = 0 then
                (bo (rc 5 [(60 : Int)] t) fun z15 t15 =>
                if z15 ≠ 0 then
                  (some (some (6, t)))
                else
                  (bo (rc 5 [(62 : Int)] t) fun z17 t17 =>
                  if z17 ≠ 0 then
                    (some (some (6, t)))
                  else
                    (bo (rc 5 [(64 : Int)] t) fun z19 t19 =>
                    if z19 ≠ 0 then
                      (some (some (6, t)))
                    else
                      (bo (rc 5 [(66 : Int)] t) fun z21 t21 =>
                      if z21 = 0 then
                        (bo (rc 5 [(68 : Int)] t) fun z23 t23 =>
                        if z23 ≠ 0 then
                          (some (some (7, t)))
                        else
                          (bo (rc 5 [(70 : Int)] t) fun z25 t25 =>
                          if z25 = 0 then
                            (bo (rc 5 [(72 : Int)] t) fun z27 t27 =>
                            if z27 ≠ 0 then
                              (some (some (8, t)))
                            else
                              (bo (rc 5 [(38 : Int)] t) fun z29 t29 =>
                              if z29 = 0 then
                                (bo (rc 5 [(74 : Int)] t) fun z31 t31 =>
                                if z31 ≠ 0 then
                                  (some (some (9, t)))
                                else
                                  (bo (rc 5 [(76 : Int)] t) fun z33 t33 =>
                                  if z33 ≠ 0 then
                                    (some (some (9, t)))
                                  else
                                    (bo (rc 5 [(78 : Int)] t) fun z35 t35 =>
                                    if z35 = 0 then
                                      (some (some ((-1), t)))
                                    else
                                      (some (some (9, t))))))
                              else
                                (some (some (8, t)))))
                          else
                            (some (some (7, t)))))
                      else
                        (some (some (6, t)))))))
              else
                (some (some (5, t)))))
          else
            (some (some (4, t))))
        else
          (some (some (3, t))))
      else
        (some (some (2, t))))
    else
      (some (some (1, t))))
  else
    (some (some (0, t)))
theorem rM151_k {t : tab} : Kn (fun rc => rM151 rc t) := by
  unfold rM151
  exact (Kn_bo Kn_r fun _ _ => (Kn_if (Kn_bo Kn_r fun _ _ => (Kn_if (Kn_bo Kn_r fun _ _ => (Kn_if (Kn_bo Kn_r fun _ _ => (Kn_if (Kn_bo Kn_r fun _ _ => (Kn_if (Kn_bo Kn_r fun _ _ => (Kn_if Kn_c (Kn_bo Kn_r fun _ _ => (Kn_if (Kn_bo Kn_r fun _ _ => (Kn_if Kn_c (Kn_bo Kn_r fun _ _ => (Kn_if Kn_c (Kn_bo Kn_r fun _ _ => (Kn_if Kn_c (Kn_bo Kn_r fun _ _ => (Kn_if (Kn_bo Kn_r fun _ _ => (Kn_if Kn_c (Kn_bo Kn_r fun _ _ => (Kn_if (Kn_bo Kn_r fun _ _ => (Kn_if Kn_c (Kn_bo Kn_r fun _ _ => (Kn_if (Kn_bo Kn_r fun _ _ => (Kn_if Kn_c (Kn_bo Kn_r fun _ _ => (Kn_if Kn_c (Kn_bo Kn_r fun _ _ => (Kn_if Kn_c Kn_c)))))) Kn_c)))) Kn_c)))) Kn_c)))))))) Kn_c)))) Kn_c)) Kn_c)) Kn_c)) Kn_c)) Kn_c))
/-- signOf -/
def rM152 (rc : MRq) (t : tab) : RO :=
  if imi (t 170 6) (t 170 5) ≠ 1 then
    (some (some (ipl (imu 256 (t 171 ((ipl (t 170 5) 1).toNat))) (t 171 ((t 170 5).toNat)), t)))
  else
    (some (some (t 171 ((t 170 5).toNat), t)))
theorem rM152_k {t : tab} : Kn (fun rc => rM152 rc t) := by
  unfold rM152
  exact (Kn_if Kn_c Kn_c)
/-- expression -/
def rM144 (rc : MRq) (x1 x2 : Int) (t : tab) : RO :=
  if x1 ≤ 9 then
    (bo (rc 22 [ipl x1 1, x2] t) fun z3 t3 =>
    if z3 ≠ 0 then
      (rc 52 [x1, x2] t3)
    else
      (some (some (0, t3))))
  else
    (bo (rc 23 [x2] t) fun z5 t5 =>
    some (some (z5, t5)))
theorem rM144_k {x1 x2 : Int} {t : tab} : Kn (fun rc => rM144 rc x1 x2 t) := by
  unfold rM144
  exact (Kn_if (Kn_bo Kn_r fun _ _ => (Kn_if Kn_r Kn_c)) (Kn_bo Kn_r fun _ _ => Kn_c))
/-- expression, at 25 -/
def rM144_25 (rc : MRq) (y1 y2 : Int) (t : tab) : RO :=
  bo (rc 20 [] t) fun z1 t1 =>
  if z1 ≠ y1 then
    (some (some (1, t)))
  else
    (bo (rc 4 [] t) fun z4 t4 =>
    bo (rc 22 [ipl y1 1, y2] t4) fun z6 t6 =>
    if z6 ≠ 0 then
      (rc 52 [y1, y2] ((pt2 ((prt t6)) 7 (sgo t))))
    else
      (some (some (0, t6))))
theorem rM144_25_k {y1 y2 : Int} {t : tab} : Kn (fun rc => rM144_25 rc y1 y2 t) := by
  unfold rM144_25
  exact (Kn_bo Kn_r fun _ _ => (Kn_if Kn_c (Kn_bo Kn_r fun _ _ => (Kn_bo Kn_r fun _ _ => (Kn_if Kn_r Kn_c)))))
/-- unary -/
def rM145 (rc : MRq) (x1 : Int) (t : tab) : RO :=
  bo (rc 5 [(38 : Int)] t) fun z1 t1 =>
  if z1 ≠ 0 then
    (if x1 ≠ 20 then
      (bo (rc 4 [] t) fun z8 t8 =>
      bo (rc 23 [ipl x1 1] t8) fun z10 t10 =>
      if z10 ≠ 0 then
        (some (some (1, (pt2 ((prt t10)) 8 (t 171 ((t 170 5).toNat))))))
      else
        (some (some (0, t10))))
    else
      (some (some (0, t))))
  else
    (bo (rc 5 [(40 : Int)] t) fun z15 t15 =>
    if z15 ≠ 0 then
      (if x1 ≠ 20 then
        (bo (rc 4 [] t) fun z22 t22 =>
        bo (rc 23 [ipl x1 1] t22) fun z24 t24 =>
        if z24 ≠ 0 then
          (some (some (1, (pt2 ((prt t24)) 8 (t 171 ((t 170 5).toNat))))))
        else
          (some (some (0, t24))))
      else
        (some (some (0, t))))
    else
      (bo (rc 5 [(42 : Int)] t) fun z29 t29 =>
      if z29 ≠ 0 then
        (if x1 ≠ 20 then
          (bo (rc 4 [] t) fun z36 t36 =>
          bo (rc 23 [ipl x1 1] t36) fun z38 t38 =>
          if z38 ≠ 0 then
            (some (some (1, (pt2 ((prt t38)) 8 (t 171 ((t 170 5).toNat))))))
          else
            (some (some (0, t38))))
        else
          (some (some (0, t))))
      else
        (bo (rc 24 [x1] t) fun z43 t43 =>
        some (some (z43, t43)))))
theorem rM145_k {x1 : Int} {t : tab} : Kn (fun rc => rM145 rc x1 t) := by
  unfold rM145
  exact (Kn_bo Kn_r fun _ _ => (Kn_if (Kn_if (Kn_bo Kn_r fun _ _ => (Kn_bo Kn_r fun _ _ => (Kn_if Kn_c Kn_c))) Kn_c) (Kn_bo Kn_r fun _ _ => (Kn_if (Kn_if (Kn_bo Kn_r fun _ _ => (Kn_bo Kn_r fun _ _ => (Kn_if Kn_c Kn_c))) Kn_c) (Kn_bo Kn_r fun _ _ => (Kn_if (Kn_if (Kn_bo Kn_r fun _ _ => (Kn_bo Kn_r fun _ _ => (Kn_if Kn_c Kn_c))) Kn_c) (Kn_bo Kn_r fun _ _ => Kn_c)))))))
/-- atom -/
def rM146 (rc : MRq) (x1 : Int) (t : tab) : RO :=
  if t 170 4 ≠ 3 then
    (bo (rc 5 [(22 : Int)] t) fun z3 t3 =>
    if z3 = 0 then
      (if t 170 4 = 1 then
        (bo (rc 9 [] t) fun z7 t7 =>
        if z7 < 0 then
          (some (some (0, t)))
        else
          (bo (rc 19 [91] t) fun z14 t14 =>
          if z14 = 0 then
            (bo (rc 19 [40] t) fun z16 t16 =>
            if z16 = 0 then
              (if t 174 z7.toNat = 0 then
                (if t 174 z7.toNat ≠ 6 then
                  (bo (rc 4 [] t) fun z23 t23 =>
                  if t23 174 z7.toNat ≠ 1 then
                    (if t23 174 z7.toNat ≠ 0 then
                      (if x1 ≠ 20 then
                        (bo (rc 4 [] (up2 ((prt t23)) 170 23 (lo (t23 170 23) (lsl 1 (ipl 0 (t23 175 z7.toNat)))))) fun z40 t40 =>
                        bo (rc 22 [0, ipl x1 1] t40) fun z42 t42 =>
                        if z42 = 0 then
                          (some (some (0, t42)))
                        else
                          (bo (rc 8 [(44 : Int)] t42) fun z44 t44 =>
                          if z44 ≠ 0 then
                            (some (some (1, (pt2 t44 4 (t44 175 z7.toNat)))))
                          else
                            (some (some (0, t44)))))
                      else
                        (some (some (0, up2 ((prt t23)) 170 23 (lo (t23 170 23) (lsl 1 (ipl 0 (t23 175 z7.toNat))))))))
                    else
                      (some (some (1, (pt2 (up2 ((prt t23)) 170 23 (lo (t23 170 23) (lsl 1 (ipl 0 (t23 175 z7.toNat))))) 3 (t23 175 z7.toNat))))))
                  else
                    (if t23 174 z7.toNat ≠ 0 then
                      (if x1 ≠ 20 then
                        (bo (rc 4 [] (up2 ((prt t23)) 170 23 (lo (t23 170 23) (lsl 1 (ipl 24 (t23 175 z7.toNat)))))) fun z65 t65 =>
                        bo (rc 22 [0, ipl x1 1] t65) fun z67 t67 =>
                        if z67 = 0 then
                          (some (some (0, t67)))
                        else
                          (bo (rc 8 [(44 : Int)] t67) fun z69 t69 =>
                          if z69 ≠ 0 then
                            (some (some (1, (pt2 t69 4 (t69 175 z7.toNat)))))
                          else
                            (some (some (0, t69)))))
                      else
                        (some (some (0, up2 ((prt t23)) 170 23 (lo (t23 170 23) (lsl 1 (ipl 24 (t23 175 z7.toNat))))))))
                    else
                      (some (some (1, (pt2 (up2 ((prt t23)) 170 23 (lo (t23 170 23) (lsl 1 (ipl 24 (t23 175 z7.toNat))))) 3 (t23 175 z7.toNat)))))))
                else
                  (if t 175 z7.toNat ≠ t 170 35 then
                    (bo (rc 25 [z7, x1] t) fun z85 t85 =>
                    some (some (z85, t85)))
                  else
                    (some (some (0, t)))))
              else
                (some (some (0, t))))
            else
              (if t 174 z7.toNat = 6 then
                (if t 175 z7.toNat ≠ t 170 35 then
                  (bo (rc 25 [z7, x1] t) fun z97 t97 =>
                  some (some (z97, t97)))
                else
                  (some (some (0, t))))
              else
                (some (some (0, t)))))
          else
            (if t 174 z7.toNat = 1 then
              (if t 174 z7.toNat ≠ 6 then
                (bo (rc 4 [] t) fun z105 t105 =>
                if t105 174 z7.toNat ≠ 1 then
                  (if t105 174 z7.toNat ≠ 0 then
                    (if x1 ≠ 20 then
                      (bo (rc 4 [] (up2 ((prt t105)) 170 23 (lo (t105 170 23) (lsl 1 (ipl 0 (t105 175 z7.toNat)))))) fun z122 t122 =>
                      bo (rc 22 [0, ipl x1 1] t122) fun z124 t124 =>
                      if z124 = 0 then
                        (some (some (0, t124)))
                      else
                        (bo (rc 8 [(44 : Int)] t124) fun z126 t126 =>
                        if z126 ≠ 0 then
                          (some (some (1, (pt2 t126 4 (t126 175 z7.toNat)))))
                        else
                          (some (some (0, t126)))))
                    else
                      (some (some (0, up2 ((prt t105)) 170 23 (lo (t105 170 23) (lsl 1 (ipl 0 (t105 175 z7.toNat))))))))
                  else
                    (some (some (1, (pt2 (up2 ((prt t105)) 170 23 (lo (t105 170 23) (lsl 1 (ipl 0 (t105 175 z7.toNat))))) 3 (t105 175 z7.toNat))))))
                else
                  (if t105 174 z7.toNat ≠ 0 then
                    (if x1 ≠ 20 then
                      (bo (rc 4 [] (up2 ((prt t105)) 170 23 (lo (t105 170 23) (lsl 1 (ipl 24 (t105 175 z7.toNat)))))) fun z147 t147 =>
                      bo (rc 22 [0, ipl x1 1] t147) fun z149 t149 =>
                      if z149 = 0 then
                        (some (some (0, t149)))
                      else
                        (bo (rc 8 [(44 : Int)] t149) fun z151 t151 =>
                        if z151 ≠ 0 then
                          (some (some (1, (pt2 t151 4 (t151 175 z7.toNat)))))
                        else
                          (some (some (0, t151)))))
                    else
                      (some (some (0, up2 ((prt t105)) 170 23 (lo (t105 170 23) (lsl 1 (ipl 24 (t105 175 z7.toNat))))))))
                  else
                    (some (some (1, (pt2 (up2 ((prt t105)) 170 23 (lo (t105 170 23) (lsl 1 (ipl 24 (t105 175 z7.toNat))))) 3 (t105 175 z7.toNat)))))))
              else
                (if t 175 z7.toNat ≠ t 170 35 then
                  (bo (rc 25 [z7, x1] t) fun z167 t167 =>
                  some (some (z167, t167)))
                else
                  (some (some (0, t)))))
            else
              (some (some (0, t))))))
      else
        (some (some (0, t))))
    else
      (if x1 ≠ 20 then
        (bo (rc 4 [] t) fun z172 t172 =>
        bo (rc 22 [0, ipl x1 1] t172) fun z174 t174 =>
        if z174 = 0 then
          (some (some (0, t174)))
        else
          (bo (rc 8 [(24 : Int)] t174) fun z176 t176 =>
          if z176 = 0 then
            (some (some (0, t176)))
          else
            (some (some (1, t176)))))
      else
        (some (some (0, t)))))
  else
    (bo (rc 4 [] ((pt2 ((prt t)) 2 (t 170 7)))) fun z182 t182 =>
    some (some (1, t182)))
theorem rM146_k {x1 : Int} {t : tab} : Kn (fun rc => rM146 rc x1 t) := by
  unfold rM146
  exact (Kn_if (Kn_bo Kn_r fun _ _ => (Kn_if (Kn_if (Kn_bo Kn_r fun _ _ => (Kn_if Kn_c (Kn_bo Kn_r fun _ _ => (Kn_if (Kn_bo Kn_r fun _ _ => (Kn_if (Kn_if (Kn_if (Kn_bo Kn_r fun _ _ => (Kn_if (Kn_if (Kn_if (Kn_bo Kn_r fun _ _ => (Kn_bo Kn_r fun _ _ => (Kn_if Kn_c (Kn_bo Kn_r fun _ _ => (Kn_if Kn_c Kn_c))))) Kn_c) Kn_c) (Kn_if (Kn_if (Kn_bo Kn_r fun _ _ => (Kn_bo Kn_r fun _ _ => (Kn_if Kn_c (Kn_bo Kn_r fun _ _ => (Kn_if Kn_c Kn_c))))) Kn_c) Kn_c))) (Kn_if (Kn_bo Kn_r fun _ _ => Kn_c) Kn_c)) Kn_c) (Kn_if (Kn_if (Kn_bo Kn_r fun _ _ => Kn_c) Kn_c) Kn_c))) (Kn_if (Kn_if (Kn_bo Kn_r fun _ _ => (Kn_if (Kn_if (Kn_if (Kn_bo Kn_r fun _ _ => (Kn_bo Kn_r fun _ _ => (Kn_if Kn_c (Kn_bo Kn_r fun _ _ => (Kn_if Kn_c Kn_c))))) Kn_c) Kn_c) (Kn_if (Kn_if (Kn_bo Kn_r fun _ _ => (Kn_bo Kn_r fun _ _ => (Kn_if Kn_c (Kn_bo Kn_r fun _ _ => (Kn_if Kn_c Kn_c))))) Kn_c) Kn_c))) (Kn_if (Kn_bo Kn_r fun _ _ => Kn_c) Kn_c)) Kn_c))))) Kn_c) (Kn_if (Kn_bo Kn_r fun _ _ => (Kn_bo Kn_r fun _ _ => (Kn_if Kn_c (Kn_bo Kn_r fun _ _ => (Kn_if Kn_c Kn_c))))) Kn_c))) (Kn_bo Kn_r fun _ _ => Kn_c))
/-- callInside -/
def rM149 (rc : MRq) (x1 x3 : Int) (t : tab) : RO :=
  rc 53 [x1, x3, t 170 3] t
theorem rM149_k {x1 x3 : Int} {t : tab} : Kn (fun rc => rM149 rc x1 x3 t) := by
  unfold rM149
  exact Kn_r
/-- callInside, at 6 -/
def rM149_6 (rc : MRq) (y1 y3 y4 : Int) (t : tab) : RO :=
  if t 170 2 ≤ y4 then
    (some (some (0, t)))
  else
    (if t 171 y4.toNat = 32 then
      (rc 53 [y1, y3, y4 + 1] t)
    else
      (if t 171 y4.toNat ≠ 10 then
        (if t 171 y4.toNat = 40 then
          (if y3 ≠ 20 then
            (bo (rc 26 [y1, ipl y3 1, 1] t) fun z21 t21 =>
            some (some (z21, t21)))
          else
            (some (some (0, t))))
        else
          (some (some (0, t))))
      else
        (rc 53 [y1, y3, y4 + 1] t)))
theorem rM149_6_k {y1 y3 y4 : Int} {t : tab} : Kn (fun rc => rM149_6 rc y1 y3 y4 t) := by
  unfold rM149_6
  exact (Kn_if Kn_c (Kn_if Kn_r (Kn_if (Kn_if (Kn_if (Kn_bo Kn_r fun _ _ => Kn_c) Kn_c) Kn_c) Kn_r)))
/-- call -/
def rM150 (rc : MRq) (x1 x3 x4 : Int) (t : tab) : RO :=
  bo (rc 4 [] ((prt t))) fun z5 t5 =>
  bo (rc 8 [(22 : Int)] t5) fun z6 t6 =>
  if z6 ≠ 0 then
    (rc 54 [x3, x4, t 175 x1.toNat, 0] t6)
  else
    (some (some (0, t6)))
theorem rM150_k {x1 x3 x4 : Int} {t : tab} : Kn (fun rc => rM150 rc x1 x3 x4 t) := by
  unfold rM150
  exact (Kn_bo Kn_r fun _ _ => (Kn_bo Kn_r fun _ _ => (Kn_if Kn_r Kn_c)))
/-- call, at 31 -/
def rM150_31 (rc : MRq) (y3 y4 y5 y6 : Int) (t : tab) : RO :=
  if y6 ≠ 0 then
    (bo (rc 5 [(26 : Int)] t) fun z2 t2 =>
    if z2 = 0 then
      (bo (rc 5 [(24 : Int)] t) fun z4 t4 =>
      if z4 ≠ 0 then
        (if y6 = t 201 y5.toNat then
          (bo (rc 4 [] t) fun z10 t10 =>
          rc 55 [y4, y5, imi y6 1] t10)
        else
          (some (some (0, t))))
      else
        (some (some (0, t))))
    else
      (if y6 ≤ 0 then
        (bo (rc 22 [0, y3] t) fun z15 t15 =>
        if z15 ≠ 0 then
          (rc 54 [y3, y4, y5, ipl y6 1] t15)
        else
          (some (some (0, t15))))
      else
        (bo (rc 4 [] t) fun z18 t18 =>
        bo (rc 22 [0, y3] t18) fun z19 t19 =>
        if z19 ≠ 0 then
          (rc 54 [y3, y4, y5, ipl y6 1] t19)
        else
          (some (some (0, t19))))))
  else
    (bo (rc 5 [(24 : Int)] t) fun z22 t22 =>
    if z22 ≠ 0 then
      (if y6 = t 201 y5.toNat then
        (bo (rc 4 [] t) fun z29 t29 =>
        rc 55 [y4, y5, imi y6 1] t29)
      else
        (some (some (0, t))))
    else
      (if y6 ≤ 0 then
        (bo (rc 22 [0, y3] t) fun z33 t33 =>
        if z33 ≠ 0 then
          (rc 54 [y3, y4, y5, ipl y6 1] t33)
        else
          (some (some (0, t33))))
      else
        (bo (rc 4 [] t) fun z36 t36 =>
        bo (rc 22 [0, y3] t36) fun z37 t37 =>
        if z37 ≠ 0 then
          (rc 54 [y3, y4, y5, ipl y6 1] t37)
        else
          (some (some (0, t37))))))
theorem rM150_31_k {y3 y4 y5 y6 : Int} {t : tab} : Kn (fun rc => rM150_31 rc y3 y4 y5 y6 t) := by
  unfold rM150_31
  exact (Kn_if (Kn_bo Kn_r fun _ _ => (Kn_if (Kn_bo Kn_r fun _ _ => (Kn_if (Kn_if (Kn_bo Kn_r fun _ _ => Kn_r) Kn_c) Kn_c)) (Kn_if (Kn_bo Kn_r fun _ _ => (Kn_if Kn_r Kn_c)) (Kn_bo Kn_r fun _ _ => (Kn_bo Kn_r fun _ _ => (Kn_if Kn_r Kn_c)))))) (Kn_bo Kn_r fun _ _ => (Kn_if (Kn_if (Kn_bo Kn_r fun _ _ => Kn_r) Kn_c) (Kn_if (Kn_bo Kn_r fun _ _ => (Kn_if Kn_r Kn_c)) (Kn_bo Kn_r fun _ _ => (Kn_bo Kn_r fun _ _ => (Kn_if Kn_r Kn_c)))))))
/-- call, at 128 -/
def rM150_128 (rc : MRq) (y4 y5 y7 : Int) (t : tab) : RO :=
  if y7 < 0 then
    (if y4 ≠ 0 then
      (some (some (1, up2 (up2 (up2 (up2 (up2 ((pt2 t 11 (t 200 y5.toNat))) 170 22 (lo (t 170 22) (t 195 y5.toNat))) 170 23 (lo (t 170 23) (t 196 y5.toNat))) 170 24 (lo (t 170 24) (t 197 y5.toNat))) 170 25 (lo (t 170 25) (t 198 y5.toNat))) 170 26 (lo (t 170 26) (t 199 y5.toNat)))))
    else
      (bo (rc 8 [(30 : Int)] (up2 (up2 (up2 (up2 (up2 ((pt2 t 11 (t 200 y5.toNat))) 170 22 (lo (t 170 22) (t 195 y5.toNat))) 170 23 (lo (t 170 23) (t 196 y5.toNat))) 170 24 (lo (t 170 24) (t 197 y5.toNat))) 170 25 (lo (t 170 25) (t 198 y5.toNat))) 170 26 (lo (t 170 26) (t 199 y5.toNat)))) fun z32 t32 =>
      if z32 = 0 then
        (some (some (0, t32)))
      else
        (some (some (1, t32)))))
  else
    (rc 55 [y4, y5, y7 + (-1)] ((pt2 t 5 (ipl (t 202 y5.toNat) y7))))
theorem rM150_128_k {y4 y5 y7 : Int} {t : tab} : Kn (fun rc => rM150_128 rc y4 y5 y7 t) := by
  unfold rM150_128
  exact (Kn_if (Kn_if Kn_c (Kn_bo Kn_r fun _ _ => (Kn_if Kn_c Kn_c))) Kn_r)
/-- target -/
def rM157 (rc : MRq) (x1 x3 : Int) (t : tab) : RO :=
  bo (rc 4 [] t) fun z1 t1 =>
  if t1 170 37 = 0 then
    (if t1 174 x1.toNat ≠ 1 then
      (if t1 174 x1.toNat ≠ 0 then
        (if ipl x3 1 ≠ 20 then
          (bo (rc 4 [] (up2 t1 170 22 (lo (t1 170 22) (lsl 1 (ipl 0 (t1 175 x1.toNat)))))) fun z20 t20 =>
          bo (rc 22 [0, ipl x3 2] t20) fun z22 t22 =>
          if z22 = 0 then
            (some (some (0, t22)))
          else
            (bo (rc 8 [(44 : Int)] t22) fun z24 t24 =>
            if z24 = 0 then
              (some (some (0, t24)))
            else
              (some (some (1, t24)))))
        else
          (some (some (0, up2 t1 170 22 (lo (t1 170 22) (lsl 1 (ipl 0 (t1 175 x1.toNat))))))))
      else
        (some (some (1, up2 t1 170 22 (lo (t1 170 22) (lsl 1 (ipl 0 (t1 175 x1.toNat))))))))
    else
      (if t1 174 x1.toNat ≠ 0 then
        (if ipl x3 1 ≠ 20 then
          (bo (rc 4 [] (up2 t1 170 22 (lo (t1 170 22) (lsl 1 (ipl 24 (t1 175 x1.toNat)))))) fun z38 t38 =>
          bo (rc 22 [0, ipl x3 2] t38) fun z40 t40 =>
          if z40 = 0 then
            (some (some (0, t40)))
          else
            (bo (rc 8 [(44 : Int)] t40) fun z42 t42 =>
            if z42 = 0 then
              (some (some (0, t42)))
            else
              (some (some (1, t42)))))
        else
          (some (some (0, up2 t1 170 22 (lo (t1 170 22) (lsl 1 (ipl 24 (t1 175 x1.toNat))))))))
      else
        (some (some (1, up2 t1 170 22 (lo (t1 170 22) (lsl 1 (ipl 24 (t1 175 x1.toNat)))))))))
  else
    (if t1 174 x1.toNat = 1 then
      (some (some (0, t1)))
    else
      (if t1 170 36 ≤ t1 175 x1.toNat then
        (if t1 174 x1.toNat ≠ 0 then
          (if ipl x3 1 ≠ 20 then
            (bo (rc 4 [] (up2 t1 170 22 (lo (t1 170 22) (lsl 1 (ipl 0 (t1 175 x1.toNat)))))) fun z70 t70 =>
            bo (rc 22 [0, ipl x3 2] t70) fun z72 t72 =>
            if z72 = 0 then
              (some (some (0, t72)))
            else
              (bo (rc 8 [(44 : Int)] t72) fun z74 t74 =>
              if z74 = 0 then
                (some (some (0, t74)))
              else
                (some (some (1, t74)))))
          else
            (some (some (0, up2 t1 170 22 (lo (t1 170 22) (lsl 1 (ipl 0 (t1 175 x1.toNat))))))))
        else
          (some (some (1, up2 t1 170 22 (lo (t1 170 22) (lsl 1 (ipl 0 (t1 175 x1.toNat))))))))
      else
        (some (some (0, t1)))))
theorem rM157_k {x1 x3 : Int} {t : tab} : Kn (fun rc => rM157 rc x1 x3 t) := by
  unfold rM157
  exact (Kn_bo Kn_r fun _ _ => (Kn_if (Kn_if (Kn_if (Kn_if (Kn_bo Kn_r fun _ _ => (Kn_bo Kn_r fun _ _ => (Kn_if Kn_c (Kn_bo Kn_r fun _ _ => (Kn_if Kn_c Kn_c))))) Kn_c) Kn_c) (Kn_if (Kn_if (Kn_bo Kn_r fun _ _ => (Kn_bo Kn_r fun _ _ => (Kn_if Kn_c (Kn_bo Kn_r fun _ _ => (Kn_if Kn_c Kn_c))))) Kn_c) Kn_c)) (Kn_if Kn_c (Kn_if (Kn_if (Kn_if (Kn_bo Kn_r fun _ _ => (Kn_bo Kn_r fun _ _ => (Kn_if Kn_c (Kn_bo Kn_r fun _ _ => (Kn_if Kn_c Kn_c))))) Kn_c) Kn_c) Kn_c))))
/-- block -/
def rM139 (rc : MRq) (x1 : Int) (t : tab) : RO :=
  bo (rc 8 [(28 : Int)] t) fun z1 t1 =>
  if z1 ≠ 0 then
    (rc 56 [x1, t1 170 14, ptz t1, 0] ((pt1 t1 1)))
  else
    (some (some (0, t1)))
theorem rM139_k {x1 : Int} {t : tab} : Kn (fun rc => rM139 rc x1 t) := by
  unfold rM139
  exact (Kn_bo Kn_r fun _ _ => (Kn_if Kn_r Kn_c))
/-- block, at 26 -/
def rM139_26 (rc : MRq) (y1 y2 y3 y4 : Int) (t : tab) : RO :=
  bo (rc 5 [(8 : Int)] t) fun z1 t1 =>
  if z1 = 0 then
    (rc 57 [y1, y2, y3, y4] t)
  else
    (bo (rc 4 [] t) fun z3 t3 =>
    bo (rc 17 [0] t3) fun z4 t4 =>
    if z4 = 0 then
      (some (some (0, t4)))
    else
      (bo (rc 8 [(30 : Int)] t4) fun z6 t6 =>
      if z6 ≠ 0 then
        (rc 56 [y1, y2, y3, y4] t6)
      else
        (some (some (0, t6)))))
theorem rM139_26_k {y1 y2 y3 y4 : Int} {t : tab} : Kn (fun rc => rM139_26 rc y1 y2 y3 y4 t) := by
  unfold rM139_26
  exact (Kn_bo Kn_r fun _ _ => (Kn_if Kn_r (Kn_bo Kn_r fun _ _ => (Kn_bo Kn_r fun _ _ => (Kn_if Kn_c (Kn_bo Kn_r fun _ _ => (Kn_if Kn_r Kn_c)))))))
/-- block, at 58 -/
def rM139_58 (rc : MRq) (y1 y2 y3 y4 : Int) (t : tab) : RO :=
  bo (rc 5 [(32 : Int)] t) fun z1 t1 =>
  if z1 ≠ 0 then
    (bo (rc 4 [] t) fun z3 t3 =>
    if y4 = 1 then
      (some (some (1, up2 t3 170 14 y2)))
    else
      (some (some (1, up2 (up2 (up2 t3 170 14 y2) 178 y3.toNat 0) 177 3 (ipl (t3 177 3) 1)))))
  else
    (bo (rc 29 [y1] t) fun z12 t12 =>
    if z12 ≠ 0 then
      (rc 57 [y1, y2, y3, ipl y4 1] t12)
    else
      (some (some (0, t12))))
theorem rM139_58_k {y1 y2 y3 y4 : Int} {t : tab} : Kn (fun rc => rM139_58 rc y1 y2 y3 y4 t) := by
  unfold rM139_58
  exact (Kn_bo Kn_r fun _ _ => (Kn_if (Kn_bo Kn_r fun _ _ => (Kn_if Kn_c Kn_c)) (Kn_bo Kn_r fun _ _ => (Kn_if Kn_r Kn_c))))
/-- statement -/
def rM141 (rc : MRq) (x1 : Int) (t : tab) : RO :=
  if x1 ≠ 20 then
    (bo (rc 5 [(28 : Int)] t) fun z2 t2 =>
    if z2 = 0 then
      (bo (rc 5 [(34 : Int)] t) fun z4 t4 =>
      if z4 = 0 then
        (bo (rc 5 [(36 : Int)] t) fun z6 t6 =>
        if z6 = 0 then
          (bo (rc 5 [(82 : Int)] t) fun z8 t8 =>
          if z8 = 0 then
            (bo (rc 5 [(84 : Int)] t) fun z10 t10 =>
            if z10 = 0 then
              (bo (rc 5 [(86 : Int)] t) fun z12 t12 =>
              if z12 = 0 then
                (if t 170 4 ≠ 1 then
                  (some (some (0, t)))
                else
                  (bo (rc 34 [x1] t) fun z17 t17 =>
                  some (some (z17, t17))))
              else
                (bo (rc 33 [x1] t) fun z18 t18 =>
                some (some (z18, t18))))
            else
              (bo (rc 32 [x1] t) fun z19 t19 =>
              some (some (z19, t19))))
          else
            (bo (rc 31 [x1] t) fun z20 t20 =>
            some (some (z20, t20))))
        else
          (bo (rc 30 [x1] t) fun z21 t21 =>
          some (some (z21, t21))))
      else
        (bo (rc 4 [] ((prt t))) fun z23 t23 =>
        bo (rc 8 [(30 : Int)] t23) fun z24 t24 =>
        some (some (z24, t24))))
    else
      (bo (rc 28 [ipl x1 1] ((rop t))) fun z28 t28 =>
      if z28 ≠ 0 then
        (some (some (1, up2 t28 170 15 (t 170 15))))
      else
        (some (some (0, t28)))))
  else
    (some (some (0, t)))
theorem rM141_k {x1 : Int} {t : tab} : Kn (fun rc => rM141 rc x1 t) := by
  unfold rM141
  exact (Kn_if (Kn_bo Kn_r fun _ _ => (Kn_if (Kn_bo Kn_r fun _ _ => (Kn_if (Kn_bo Kn_r fun _ _ => (Kn_if (Kn_bo Kn_r fun _ _ => (Kn_if (Kn_bo Kn_r fun _ _ => (Kn_if (Kn_bo Kn_r fun _ _ => (Kn_if (Kn_if Kn_c (Kn_bo Kn_r fun _ _ => Kn_c)) (Kn_bo Kn_r fun _ _ => Kn_c))) (Kn_bo Kn_r fun _ _ => Kn_c))) (Kn_bo Kn_r fun _ _ => Kn_c))) (Kn_bo Kn_r fun _ _ => Kn_c))) (Kn_bo Kn_r fun _ _ => (Kn_bo Kn_r fun _ _ => Kn_c)))) (Kn_bo Kn_r fun _ _ => (Kn_if Kn_c Kn_c)))) Kn_c)
/-- branch -/
def rM143 (rc : MRq) (x1 : Int) (t : tab) : RO :=
  bo (rc 4 [] ((prt t))) fun z2 t2 =>
  bo (rc 8 [(22 : Int)] t2) fun z3 t3 =>
  if z3 = 0 then
    (some (some (0, t3)))
  else
    (bo (rc 22 [0, ipl x1 1] t3) fun z6 t6 =>
    if z6 = 0 then
      (some (some (0, t6)))
    else
      (bo (rc 8 [(24 : Int)] t6) fun z8 t8 =>
      if z8 ≠ 0 then
        (bo (rc 29 [ipl x1 1] ((pt1 ((pt1 t8 10)) 0))) fun z13 t13 =>
        if z13 ≠ 0 then
          (bo (rc 5 [(80 : Int)] t13) fun z15 t15 =>
          if z15 = 0 then
            (some (some (1, up2 t13 178 ((ptz ((pt1 t8 10))).toNat) (t13 177 1))))
          else
            (bo (rc 4 [] t13) fun z21 t21 =>
            bo (rc 29 [ipl x1 1] (up2 ((pt1 ((pt1 t21 9)) 0)) 178 ((ptz ((pt1 t8 10))).toNat) ((pt1 ((pt1 t21 9)) 0) 177 1))) fun z29 t29 =>
            if z29 ≠ 0 then
              (some (some (1, up2 t29 178 ((ptz ((pt1 t21 9))).toNat) (t29 177 1))))
            else
              (some (some (0, t29)))))
        else
          (some (some (0, t13))))
      else
        (some (some (0, t8)))))
theorem rM143_k {x1 : Int} {t : tab} : Kn (fun rc => rM143 rc x1 t) := by
  unfold rM143
  exact (Kn_bo Kn_r fun _ _ => (Kn_bo Kn_r fun _ _ => (Kn_if Kn_c (Kn_bo Kn_r fun _ _ => (Kn_if Kn_c (Kn_bo Kn_r fun _ _ => (Kn_if (Kn_bo Kn_r fun _ _ => (Kn_if (Kn_bo Kn_r fun _ _ => (Kn_if Kn_c (Kn_bo Kn_r fun _ _ => (Kn_bo Kn_r fun _ _ => (Kn_if Kn_c Kn_c))))) Kn_c)) Kn_c)))))))
/-- loop -/
def rM153 (rc : MRq) (x1 : Int) (t : tab) : RO :=
  bo (rc 4 [] ((prt t))) fun z2 t2 =>
  bo (rc 8 [(22 : Int)] t2) fun z4 t4 =>
  if z4 = 0 then
    (some (some (0, t4)))
  else
    (bo (rc 22 [0, ipl x1 1] t4) fun z7 t7 =>
    if z7 = 0 then
      (some (some (0, t7)))
    else
      (bo (rc 8 [(24 : Int)] t7) fun z9 t9 =>
      if z9 ≠ 0 then
        (bo (rc 29 [ipl x1 1] ((pt1 ((pt1 t9 10)) 0))) fun z14 t14 =>
        if z14 ≠ 0 then
          (some (some (1, up2 ((pt2 t14 9 (t2 177 1))) 178 ((ptz ((pt1 t9 10))).toNat) ((pt2 t14 9 (t2 177 1)) 177 1))))
        else
          (some (some (0, t14))))
      else
        (some (some (0, t9)))))
theorem rM153_k {x1 : Int} {t : tab} : Kn (fun rc => rM153 rc x1 t) := by
  unfold rM153
  exact (Kn_bo Kn_r fun _ _ => (Kn_bo Kn_r fun _ _ => (Kn_if Kn_c (Kn_bo Kn_r fun _ _ => (Kn_if Kn_c (Kn_bo Kn_r fun _ _ => (Kn_if (Kn_bo Kn_r fun _ _ => (Kn_if Kn_c Kn_c)) Kn_c)))))))
/-- repeat -/
def rM154 (rc : MRq) (x1 : Int) (t : tab) : RO :=
  bo (rc 4 [] ((prt t))) fun z2 t2 =>
  if t2 170 4 = 3 then
    (bo (rc 4 [] ((pt1 (up2 ((pt1 ((pt1 ((pt1 ((pt2 t2 17 (t2 177 10))) (t2 170 7))) 18)) (t2 177 10))) 177 10 (ipl (t2 177 10) 1)) 0))) fun z16 t16 =>
    bo (rc 29 [ipl x1 1] t16) fun z18 t18 =>
    if z18 ≠ 0 then
      (some (some (1, up2 ((pt2 t18 9 (ptz ((pt1 ((pt2 t2 17 (t2 177 10))) (t2 170 7)))))) 178 ((ptz (up2 ((pt1 ((pt1 ((pt1 ((pt2 t2 17 (t2 177 10))) (t2 170 7))) 18)) (t2 177 10))) 177 10 (ipl (t2 177 10) 1))).toNat) ((pt2 t18 9 (ptz ((pt1 ((pt2 t2 17 (t2 177 10))) (t2 170 7))))) 177 1))))
    else
      (some (some (0, t18))))
  else
    (some (some (0, t2)))
theorem rM154_k {x1 : Int} {t : tab} : Kn (fun rc => rM154 rc x1 t) := by
  unfold rM154
  exact (Kn_bo Kn_r fun _ _ => (Kn_if (Kn_bo Kn_r fun _ _ => (Kn_bo Kn_r fun _ _ => (Kn_if Kn_c Kn_c))) Kn_c))
/-- par -/
def rM155 (rc : MRq) (x1 : Int) (t : tab) : RO :=
  bo (rc 4 [] ((prt t))) fun z3 t3 =>
  bo (rc 8 [(28 : Int)] t3) fun z4 t4 =>
  if z4 ≠ 0 then
    (rc 58 [x1, t 170 5, ptz ((pt1 t4 19)), (pt1 ((pt1 t4 19)) 0) 177 1, 0, 0] ((pt1 ((pt1 t4 19)) 0)))
  else
    (some (some (0, t4)))
theorem rM155_k {x1 : Int} {t : tab} : Kn (fun rc => rM155 rc x1 t) := by
  unfold rM155
  exact (Kn_bo Kn_r fun _ _ => (Kn_bo Kn_r fun _ _ => (Kn_if Kn_r Kn_c)))
/-- par, at 53 -/
def rM155_53 (rc : MRq) (y1 y2 y3 y4 y5 y6 : Int) (t : tab) : RO :=
  if 6 ≤ y6 then
    (rc 59 [y1, y2, y3, y4, y5, ptz ((pt1 t 9)), t 170 22, t 170 23, t 170 24, t 170 25, t 170 26, 0, 0, 0, 0, 0, 0] ((pt1 ((pt1 t 9)) 0)))
  else
    (rc 58 [y1, y2, y3, y4, y5, y6 + 1] ((pt1 t 0)))
theorem rM155_53_k {y1 y2 y3 y4 y5 y6 : Int} {t : tab} : Kn (fun rc => rM155_53 rc y1 y2 y3 y4 y5 y6 t) := by
  unfold rM155_53
  exact (Kn_if Kn_r Kn_r)
/-- par, at 134 -/
def rM155_134 (rc : MRq) (y1 y2 y3 y4 y5 y6 y7 y9 y11 y13 y15 y17 y19 y21 y23 y25 y27 : Int) (t : tab) : RO :=
  if y5 ≠ 6 then
    (if y5 ≤ 0 then
      (bo (rc 29 [ipl y1 1] (up2 ((rfg t)) 178 ((ipl y4 y5).toNat) ((rfg t) 177 1))) fun z10 t10 =>
      if z10 ≠ 0 then
        (if la y17 (lo (t10 170 23) (t10 170 22)) ≠ 0 then
          (rc 60 [y1, y2, y3, y4, y5, y6, y7, y9, y11, y13, y15, y17, y19, y21, y23, y25, 1, y27] ((pt1 t10 20)))
        else
          (if la (t10 170 22) (lo y19 y17) ≠ 0 then
            (rc 60 [y1, y2, y3, y4, y5, y6, y7, y9, y11, y13, y15, y17, y19, y21, y23, y25, 1, y27] ((pt1 t10 20)))
          else
            (if la y21 (t10 170 24) ≠ 0 then
              (rc 60 [y1, y2, y3, y4, y5, y6, y7, y9, y11, y13, y15, y17, y19, y21, y23, y25, 1, y27] ((pt1 t10 20)))
            else
              (if la y23 (t10 170 25) ≠ 0 then
                (rc 60 [y1, y2, y3, y4, y5, y6, y7, y9, y11, y13, y15, y17, y19, y21, y23, y25, 1, y27] ((pt1 t10 20)))
              else
                (if la y25 (t10 170 26) = 0 then
                  (rc 60 [y1, y2, y3, y4, y5, y6, y7, y9, y11, y13, y15, y17, y19, y21, y23, y25, 0, y27] ((pt1 t10 20)))
                else
                  (rc 60 [y1, y2, y3, y4, y5, y6, y7, y9, y11, y13, y15, y17, y19, y21, y23, y25, 1, y27] ((pt1 t10 20))))))))
      else
        (some (some (0, t10))))
    else
      (bo (rc 4 [] t) fun z24 t24 =>
      bo (rc 29 [ipl y1 1] (up2 ((rfg t24)) 178 ((ipl y4 y5).toNat) ((rfg t24) 177 1))) fun z32 t32 =>
      if z32 ≠ 0 then
        (if la y17 (lo (t32 170 23) (t32 170 22)) ≠ 0 then
          (rc 60 [y1, y2, y3, y4, y5, y6, y7, y9, y11, y13, y15, y17, y19, y21, y23, y25, 1, y27] ((pt1 t32 20)))
        else
          (if la (t32 170 22) (lo y19 y17) ≠ 0 then
            (rc 60 [y1, y2, y3, y4, y5, y6, y7, y9, y11, y13, y15, y17, y19, y21, y23, y25, 1, y27] ((pt1 t32 20)))
          else
            (if la y21 (t32 170 24) ≠ 0 then
              (rc 60 [y1, y2, y3, y4, y5, y6, y7, y9, y11, y13, y15, y17, y19, y21, y23, y25, 1, y27] ((pt1 t32 20)))
            else
              (if la y23 (t32 170 25) ≠ 0 then
                (rc 60 [y1, y2, y3, y4, y5, y6, y7, y9, y11, y13, y15, y17, y19, y21, y23, y25, 1, y27] ((pt1 t32 20)))
              else
                (if la y25 (t32 170 26) = 0 then
                  (rc 60 [y1, y2, y3, y4, y5, y6, y7, y9, y11, y13, y15, y17, y19, y21, y23, y25, 0, y27] ((pt1 t32 20)))
                else
                  (rc 60 [y1, y2, y3, y4, y5, y6, y7, y9, y11, y13, y15, y17, y19, y21, y23, y25, 1, y27] ((pt1 t32 20))))))))
      else
        (some (some (0, t32)))))
  else
    (some (some (0, t)))
theorem rM155_134_k {y1 y2 y3 y4 y5 y6 y7 y9 y11 y13 y15 y17 y19 y21 y23 y25 y27 : Int} {t : tab} : Kn (fun rc => rM155_134 rc y1 y2 y3 y4 y5 y6 y7 y9 y11 y13 y15 y17 y19 y21 y23 y25 y27 t) := by
  unfold rM155_134
  exact (Kn_if (Kn_if (Kn_bo Kn_r fun _ _ => (Kn_if (Kn_if Kn_r (Kn_if Kn_r (Kn_if Kn_r (Kn_if Kn_r (Kn_if Kn_r Kn_r))))) Kn_c)) (Kn_bo Kn_r fun _ _ => (Kn_bo Kn_r fun _ _ => (Kn_if (Kn_if Kn_r (Kn_if Kn_r (Kn_if Kn_r (Kn_if Kn_r (Kn_if Kn_r Kn_r))))) Kn_c)))) Kn_c)
/-- par, at 273 -/
def rM155_273 (rc : MRq) (y1 y2 y3 y4 y5 y6 y7 y9 y11 y13 y15 y17 y19 y21 y23 y25 ys0 ys1 : Int) (t : tab) : RO :=
  if ipl y5 1 ≠ 1 then
    (bo (rc 5 [(50 : Int)] t) fun z8 t8 =>
    if z8 ≠ 0 then
      (rc 59 [y1, y2, y3, y4, ipl y5 1, y6, y7, y9, y11, y13, y15, lo y17 (t 170 22), lo y19 (t 170 23), lo y21 (t 170 24), lo y23 (t 170 25), lo y25 (t 170 26), ior ys1 ys0] t)
    else
      (bo (rc 8 [(32 : Int)] t) fun z10 t10 =>
      if z10 ≠ 0 then
        (if ior ys1 ys0 = 0 then
          (some (some (1, up2 (up2 (up2 (up2 (up2 (up2 (up2 t10 178 y3.toNat (ipl y5 1)) 178 y6.toNat (t10 177 1)) 170 22 (lo y7 (lo y17 (t 170 22)))) 170 23 (lo y9 (lo y19 (t 170 23)))) 170 24 (lo y11 (lo y21 (t 170 24)))) 170 25 (lo y13 (lo y23 (t 170 25)))) 170 26 (lo y15 (lo y25 (t 170 26))))))
        else
          (if t10 170 21 < 0 then
            (some (some (1, up2 (up2 (up2 (up2 (up2 (up2 (up2 (up2 t10 178 y3.toNat (ipl y5 1)) 178 y6.toNat (t10 177 1)) 170 22 (lo y7 (lo y17 (t 170 22)))) 170 23 (lo y9 (lo y19 (t 170 23)))) 170 24 (lo y11 (lo y21 (t 170 24)))) 170 25 (lo y13 (lo y23 (t 170 25)))) 170 26 (lo y15 (lo y25 (t 170 26)))) 170 21 y2)))
          else
            (if t10 170 21 ≤ y2 then
              (some (some (1, up2 (up2 (up2 (up2 (up2 (up2 (up2 t10 178 y3.toNat (ipl y5 1)) 178 y6.toNat (t10 177 1)) 170 22 (lo y7 (lo y17 (t 170 22)))) 170 23 (lo y9 (lo y19 (t 170 23)))) 170 24 (lo y11 (lo y21 (t 170 24)))) 170 25 (lo y13 (lo y23 (t 170 25)))) 170 26 (lo y15 (lo y25 (t 170 26))))))
            else
              (some (some (1, up2 (up2 (up2 (up2 (up2 (up2 (up2 (up2 t10 178 y3.toNat (ipl y5 1)) 178 y6.toNat (t10 177 1)) 170 22 (lo y7 (lo y17 (t 170 22)))) 170 23 (lo y9 (lo y19 (t 170 23)))) 170 24 (lo y11 (lo y21 (t 170 24)))) 170 25 (lo y13 (lo y23 (t 170 25)))) 170 26 (lo y15 (lo y25 (t 170 26)))) 170 21 y2))))))
      else
        (some (some (0, t10)))))
  else
    (bo (rc 5 [(50 : Int)] t) fun z31 t31 =>
    if z31 ≠ 0 then
      (rc 59 [y1, y2, y3, y4, ipl y5 1, y6, y7, y9, y11, y13, y15, lo y17 (t 170 22), lo y19 (t 170 23), lo y21 (t 170 24), lo y23 (t 170 25), lo y25 (t 170 26), ior ys1 ys0] t)
    else
      (some (some (0, t))))
theorem rM155_273_k {y1 y2 y3 y4 y5 y6 y7 y9 y11 y13 y15 y17 y19 y21 y23 y25 ys0 ys1 : Int} {t : tab} : Kn (fun rc => rM155_273 rc y1 y2 y3 y4 y5 y6 y7 y9 y11 y13 y15 y17 y19 y21 y23 y25 ys0 ys1 t) := by
  unfold rM155_273
  exact (Kn_if (Kn_bo Kn_r fun _ _ => (Kn_if Kn_r (Kn_bo Kn_r fun _ _ => (Kn_if (Kn_if Kn_c (Kn_if Kn_c (Kn_if Kn_c Kn_c))) Kn_c)))) (Kn_bo Kn_r fun _ _ => (Kn_if Kn_r Kn_c)))
/-- byName -/
def rM156 (rc : MRq) (x1 : Int) (t : tab) : RO :=
  bo (rc 9 [] t) fun z1 t1 =>
  if 0 ≤ z1 then
    (if t 174 z1.toNat ≠ 0 then
      (if t 174 z1.toNat ≠ 1 then
        (if t 174 z1.toNat ≠ 5 then
          (if t 170 37 ≠ 0 then
            (rc 61 [x1, z1, t 170 5, t 174 z1.toNat, t 175 z1.toNat, 0] t)
          else
            (if t 174 z1.toNat = 2 then
              (bo (rc 19 [33] t) fun z17 t17 =>
              if z17 ≠ 0 then
                (rc 61 [x1, z1, t 170 5, t 174 z1.toNat, t 175 z1.toNat, 1] t)
              else
                (bo (rc 19 [63] t) fun z20 t20 =>
                if z20 = 0 then
                  (rc 61 [x1, z1, t 170 5, t 174 z1.toNat, t 175 z1.toNat, 0] t)
                else
                  (rc 61 [x1, z1, t 170 5, t 174 z1.toNat, t 175 z1.toNat, 1] t)))
            else
              (if t 174 z1.toNat ≠ 4 then
                (if t 174 z1.toNat ≠ 3 then
                  (rc 61 [x1, z1, t 170 5, t 174 z1.toNat, t 175 z1.toNat, 0] t)
                else
                  (bo (rc 19 [63] t) fun z25 t25 =>
                  if z25 = 0 then
                    (rc 61 [x1, z1, t 170 5, t 174 z1.toNat, t 175 z1.toNat, 0] t)
                  else
                    (rc 61 [x1, z1, t 170 5, t 174 z1.toNat, t 175 z1.toNat, 1] t)))
              else
                (bo (rc 19 [33] t) fun z27 t27 =>
                if z27 ≠ 0 then
                  (rc 61 [x1, z1, t 170 5, t 174 z1.toNat, t 175 z1.toNat, 1] t)
                else
                  (if t 174 z1.toNat ≠ 3 then
                    (rc 61 [x1, z1, t 170 5, t 174 z1.toNat, t 175 z1.toNat, 0] t)
                  else
                    (bo (rc 19 [63] t) fun z31 t31 =>
                    if z31 = 0 then
                      (rc 61 [x1, z1, t 170 5, t 174 z1.toNat, t 175 z1.toNat, 0] t)
                    else
                      (rc 61 [x1, z1, t 170 5, t 174 z1.toNat, t 175 z1.toNat, 1] t)))))))
        else
          (bo (rc 19 [40] t) fun z33 t33 =>
          if z33 = 0 then
            (rc 61 [x1, z1, t 170 5, t 174 z1.toNat, t 175 z1.toNat, 0] t)
          else
            (if t 170 37 ≠ 0 then
              (rc 61 [x1, z1, t 170 5, t 174 z1.toNat, t 175 z1.toNat, 0] t)
            else
              (if t 175 z1.toNat = t 170 35 then
                (rc 61 [x1, z1, t 170 5, t 174 z1.toNat, t 175 z1.toNat, 0] t)
              else
                (rc 61 [x1, z1, t 170 5, t 174 z1.toNat, t 175 z1.toNat, 1] t)))))
      else
        (bo (rc 19 [91] t) fun z39 t39 =>
        rc 61 [x1, z1, t 170 5, t 174 z1.toNat, t 175 z1.toNat, z39] t))
    else
      (bo (rc 19 [61] t) fun z40 t40 =>
      rc 61 [x1, z1, t 170 5, t 174 z1.toNat, t 175 z1.toNat, z40] t))
  else
    (some (some (0, t)))
theorem rM156_k {x1 : Int} {t : tab} : Kn (fun rc => rM156 rc x1 t) := by
  unfold rM156
  exact (Kn_bo Kn_r fun _ _ => (Kn_if (Kn_if (Kn_if (Kn_if (Kn_if Kn_r (Kn_if (Kn_bo Kn_r fun _ _ => (Kn_if Kn_r (Kn_bo Kn_r fun _ _ => (Kn_if Kn_r Kn_r)))) (Kn_if (Kn_if Kn_r (Kn_bo Kn_r fun _ _ => (Kn_if Kn_r Kn_r))) (Kn_bo Kn_r fun _ _ => (Kn_if Kn_r (Kn_if Kn_r (Kn_bo Kn_r fun _ _ => (Kn_if Kn_r Kn_r)))))))) (Kn_bo Kn_r fun _ _ => (Kn_if Kn_r (Kn_if Kn_r (Kn_if Kn_r Kn_r))))) (Kn_bo Kn_r fun _ _ => Kn_r)) (Kn_bo Kn_r fun _ _ => Kn_r)) Kn_c))
/-- byName, at 164 -/
def rM156_164 (rc : MRq) (y1 y2 y3 y4 y5 ys0 : Int) (t : tab) : RO :=
  if ys0 ≠ 0 then
    (if y4 ≠ 5 then
      (if 1 < y4 then
        (bo (rc 4 [] ((prt t))) fun z5 t5 =>
        bo (rc 5 [(42 : Int)] t5) fun z6 t6 =>
        if z6 = 0 then
          (bo (rc 4 [] t5) fun z8 t8 =>
          if t8 170 4 ≠ 1 then
            (some (some (0, t8)))
          else
            (bo (rc 9 [] t8) fun z13 t13 =>
            if 0 ≤ z13 then
              (bo (rc 19 [91] t8) fun z19 t19 =>
              if z19 = 0 then
                (if t8 174 z13.toNat = 0 then
                  (bo (rc 27 [z13, y1] t8) fun z22 t22 =>
                  if z22 ≠ 0 then
                    (if y4 ≠ 2 then
                      (bo (rc 8 [(30 : Int)] ((sto (up2 ((pt2 t22 16 y5)) 170 25 (lo (t22 170 25) (lsl 1 (ipl 8 y5)))) (t22 174 z13.toNat) (t22 175 z13.toNat)))) fun z36 t36 =>
                      some (some (z36, t36)))
                    else
                      (bo (rc 8 [(30 : Int)] ((sto (up2 ((pt2 t22 14 y5)) 170 25 (lo (t22 170 25) (lsl 1 y5))) (t22 174 z13.toNat) (t22 175 z13.toNat)))) fun z47 t47 =>
                      some (some (z47, t47))))
                  else
                    (some (some (0, t22))))
                else
                  (some (some (0, t8))))
              else
                (if t8 174 z13.toNat = 1 then
                  (bo (rc 27 [z13, y1] t8) fun z50 t50 =>
                  if z50 ≠ 0 then
                    (if y4 ≠ 2 then
                      (bo (rc 8 [(30 : Int)] ((sto (up2 ((pt2 t50 16 y5)) 170 25 (lo (t50 170 25) (lsl 1 (ipl 8 y5)))) (t50 174 z13.toNat) (t50 175 z13.toNat)))) fun z64 t64 =>
                      some (some (z64, t64)))
                    else
                      (bo (rc 8 [(30 : Int)] ((sto (up2 ((pt2 t50 14 y5)) 170 25 (lo (t50 170 25) (lsl 1 y5))) (t50 174 z13.toNat) (t50 175 z13.toNat)))) fun z75 t75 =>
                      some (some (z75, t75))))
                  else
                    (some (some (0, t50))))
                else
                  (some (some (0, t8)))))
            else
              (some (some (0, t8)))))
        else
          (bo (rc 4 [] t5) fun z78 t78 =>
          bo (rc 22 [0, ipl y1 1] t78) fun z80 t80 =>
          if z80 ≠ 0 then
            (if y4 ≠ 2 then
              (bo (rc 8 [(30 : Int)] (up2 ((pt2 t80 15 y5)) 170 24 (lo (t80 170 24) (lsl 1 (ipl 8 y5))))) fun z87 t87 =>
              some (some (z87, t87)))
            else
              (bo (rc 8 [(30 : Int)] (up2 ((pt2 t80 13 y5)) 170 24 (lo (t80 170 24) (lsl 1 y5)))) fun z91 t91 =>
              some (some (z91, t91))))
          else
            (some (some (0, t80)))))
      else
        (bo (rc 27 [y2, y1] ((prt t))) fun z93 t93 =>
        if z93 ≠ 0 then
          (bo (rc 8 [(88 : Int)] t93) fun z95 t95 =>
          if z95 = 0 then
            (some (some (0, t95)))
          else
            (bo (rc 22 [0, ipl y1 1] t95) fun z98 t98 =>
            if z98 ≠ 0 then
              (bo (rc 8 [(30 : Int)] ((sto t98 y4 y5))) fun z101 t101 =>
              some (some (z101, t101)))
            else
              (some (some (0, t98)))))
        else
          (some (some (0, t93)))))
    else
      (bo (rc 26 [y2, ipl y1 1, 0] t) fun z103 t103 =>
      some (some (z103, t103))))
  else
    (bo (rc 19 [61] t) fun z104 t104 =>
    if z104 ≠ 0 then
      (some (some (0, t)))
    else
      (bo (rc 19 [91] t) fun z107 t107 =>
      if z107 ≠ 0 then
        (some (some (0, t)))
      else
        (bo (rc 19 [40] t) fun z110 t110 =>
        if z110 ≠ 0 then
          (some (some (0, t)))
        else
          (bo (rc 19 [33] t) fun z113 t113 =>
          if z113 ≠ 0 then
            (some (some (0, t)))
          else
            (bo (rc 19 [63] t) fun z116 t116 =>
            if z116 ≠ 0 then
              (some (some (0, t)))
            else
              (bo (rc 4 [] t) fun z119 t119 =>
              some (some (0, t119))))))))
theorem rM156_164_k {y1 y2 y3 y4 y5 ys0 : Int} {t : tab} : Kn (fun rc => rM156_164 rc y1 y2 y3 y4 y5 ys0 t) := by
  unfold rM156_164
  exact (Kn_if (Kn_if (Kn_if (Kn_bo Kn_r fun _ _ => (Kn_bo Kn_r fun _ _ => (Kn_if (Kn_bo Kn_r fun _ _ => (Kn_if Kn_c (Kn_bo Kn_r fun _ _ => (Kn_if (Kn_bo Kn_r fun _ _ => (Kn_if (Kn_if (Kn_bo Kn_r fun _ _ => (Kn_if (Kn_if (Kn_bo Kn_r fun _ _ => Kn_c) (Kn_bo Kn_r fun _ _ => Kn_c)) Kn_c)) Kn_c) (Kn_if (Kn_bo Kn_r fun _ _ => (Kn_if (Kn_if (Kn_bo Kn_r fun _ _ => Kn_c) (Kn_bo Kn_r fun _ _ => Kn_c)) Kn_c)) Kn_c))) Kn_c)))) (Kn_bo Kn_r fun _ _ => (Kn_bo Kn_r fun _ _ => (Kn_if (Kn_if (Kn_bo Kn_r fun _ _ => Kn_c) (Kn_bo Kn_r fun _ _ => Kn_c)) Kn_c)))))) (Kn_bo Kn_r fun _ _ => (Kn_if (Kn_bo Kn_r fun _ _ => (Kn_if Kn_c (Kn_bo Kn_r fun _ _ => (Kn_if (Kn_bo Kn_r fun _ _ => Kn_c) Kn_c)))) Kn_c))) (Kn_bo Kn_r fun _ _ => Kn_c)) (Kn_bo Kn_r fun _ _ => (Kn_if Kn_c (Kn_bo Kn_r fun _ _ => (Kn_if Kn_c (Kn_bo Kn_r fun _ _ => (Kn_if Kn_c (Kn_bo Kn_r fun _ _ => (Kn_if Kn_c (Kn_bo Kn_r fun _ _ => (Kn_if Kn_c (Kn_bo Kn_r fun _ _ => Kn_c))))))))))))
/-- body -/
def rM159 (rc : MRq) (t : tab) : RO :=
  bo (rc 8 [(28 : Int)] t) fun z1 t1 =>
  if z1 ≠ 0 then
    (rc 62 [] t1)
  else
    (some (some (0, t1)))
theorem rM159_k {t : tab} : Kn (fun rc => rM159 rc t) := by
  unfold rM159
  exact (Kn_bo Kn_r fun _ _ => (Kn_if Kn_r Kn_c))
/-- body, at 12 -/
def rM159_12 (rc : MRq) (t : tab) : RO :=
  bo (rc 5 [(8 : Int)] t) fun z1 t1 =>
  if z1 = 0 then
    (rc 63 [] t)
  else
    (bo (rc 4 [] t) fun z3 t3 =>
    bo (rc 17 [0] t3) fun z4 t4 =>
    if z4 = 0 then
      (some (some (0, t4)))
    else
      (bo (rc 8 [(30 : Int)] t4) fun z6 t6 =>
      if z6 ≠ 0 then
        (rc 62 [] t6)
      else
        (some (some (0, t6)))))
theorem rM159_12_k {t : tab} : Kn (fun rc => rM159_12 rc t) := by
  unfold rM159_12
  exact (Kn_bo Kn_r fun _ _ => (Kn_if Kn_r (Kn_bo Kn_r fun _ _ => (Kn_bo Kn_r fun _ _ => (Kn_if Kn_c (Kn_bo Kn_r fun _ _ => (Kn_if Kn_r Kn_c)))))))
/-- body, at 44 -/
def rM159_44 (rc : MRq) (t : tab) : RO :=
  bo (rc 5 [(90 : Int)] t) fun z1 t1 =>
  if z1 ≠ 0 then
    (bo (rc 4 [] t) fun z3 t3 =>
    bo (rc 22 [0, 0] t3) fun z4 t4 =>
    if z4 = 0 then
      (some (some (0, t4)))
    else
      (bo (rc 8 [(30 : Int)] t4) fun z6 t6 =>
      if z6 = 0 then
        (some (some (0, t6)))
      else
        (bo (rc 8 [(32 : Int)] t6) fun z8 t8 =>
        if z8 = 0 then
          (some (some (0, t8)))
        else
          (some (some (1, t8))))))
  else
    (bo (rc 29 [0] t) fun z10 t10 =>
    if z10 ≠ 0 then
      (rc 63 [] t10)
    else
      (some (some (0, t10))))
theorem rM159_44_k {t : tab} : Kn (fun rc => rM159_44 rc t) := by
  unfold rM159_44
  exact (Kn_bo Kn_r fun _ _ => (Kn_if (Kn_bo Kn_r fun _ _ => (Kn_bo Kn_r fun _ _ => (Kn_if Kn_c (Kn_bo Kn_r fun _ _ => (Kn_if Kn_c (Kn_bo Kn_r fun _ _ => (Kn_if Kn_c Kn_c))))))) (Kn_bo Kn_r fun _ _ => (Kn_if Kn_r Kn_c))))
/-- routine -/
def rM129 (rc : MRq) (x1 : Int) (t : tab) : RO :=
  bo (rc 4 [] t) fun z1 t1 =>
  bo (rc 16 [t1 177 9, 12] t1) fun z3 t3 =>
  if z3 = 0 then
    (some (some (0, t1)))
  else
    (if x1 = 0 then
      (bo (rc 10 [6, t1 177 9] t1) fun z6 t6 =>
      if z6 ≠ 0 then
        (bo (rc 8 [(22 : Int)] (up2 (up2 (up2 (up2 (up2 (up2 (up2 (up2 t6 177 9 (ipl (t6 177 9) 1)) 170 15 (t6 170 16)) 170 16 (ipl (t6 170 16) 1)) 170 35 (t1 177 9)) 170 37 1) 170 36 (t6 177 4)) 202 ((t1 177 9).toNat) (t6 177 4)) 201 ((t1 177 9).toNat) 0)) fun z25 t25 =>
        if z25 ≠ 0 then
          (rc 64 [x1, t1 177 9, t6 170 15, t6 170 14] t25)
        else
          (some (some (0, t25))))
      else
        (some (some (0, t6))))
    else
      (bo (rc 10 [5, t1 177 9] t1) fun z27 t27 =>
      if z27 ≠ 0 then
        (bo (rc 8 [(22 : Int)] (up2 (up2 (up2 (up2 (up2 (up2 (up2 (up2 t27 177 9 (ipl (t27 177 9) 1)) 170 15 (t27 170 16)) 170 16 (ipl (t27 170 16) 1)) 170 35 (t1 177 9)) 170 37 0) 170 36 (t27 177 4)) 202 ((t1 177 9).toNat) (t27 177 4)) 201 ((t1 177 9).toNat) 0)) fun z46 t46 =>
        if z46 ≠ 0 then
          (rc 64 [x1, t1 177 9, t27 170 15, t27 170 14] t46)
        else
          (some (some (0, t46))))
      else
        (some (some (0, t27)))))
theorem rM129_k {x1 : Int} {t : tab} : Kn (fun rc => rM129 rc x1 t) := by
  unfold rM129
  exact (Kn_bo Kn_r fun _ _ => (Kn_bo Kn_r fun _ _ => (Kn_if Kn_c (Kn_if (Kn_bo Kn_r fun _ _ => (Kn_if (Kn_bo Kn_r fun _ _ => (Kn_if Kn_r Kn_c)) Kn_c)) (Kn_bo Kn_r fun _ _ => (Kn_if (Kn_bo Kn_r fun _ _ => (Kn_if Kn_r Kn_c)) Kn_c))))))
/-- routine, at 131 -/
def rM129_131 (rc : MRq) (y1 y2 y3 y4 : Int) (t : tab) : RO :=
  if t 201 y2.toNat ≠ 0 then
    (bo (rc 5 [(26 : Int)] t) fun z5 t5 =>
    if z5 = 0 then
      (bo (rc 8 [(24 : Int)] t) fun z7 t7 =>
      if z7 ≠ 0 then
        (if y1 = 0 then
          (bo (rc 35 [] (up2 ((rfg t7)) 200 y2.toNat ((rfg t7) 177 1))) fun z15 t15 =>
          if z15 ≠ 0 then
            (rc 65 [y2, y3, y4, 0] ((pt1 t15 12)))
          else
            (some (some (0, t15))))
        else
          (bo (rc 28 [0] (up2 ((rfg t7)) 200 y2.toNat ((rfg t7) 177 1))) fun z18 t18 =>
          if z18 = 0 then
            (some (some (0, t18)))
          else
            (rc 65 [y2, y3, y4, 0] ((pt1 t18 12)))))
      else
        (some (some (0, t7))))
    else
      (if t 201 y2.toNat ≤ 0 then
        (if t 201 y2.toNat ≠ 4 then
          (bo (rc 17 [0] t) fun z29 t29 =>
          if z29 ≠ 0 then
            (rc 64 [y1, y2, y3, y4] (up2 t29 201 y2.toNat (ipl (t29 201 y2.toNat) 1)))
          else
            (some (some (0, t29))))
        else
          (some (some (0, t))))
      else
        (bo (rc 4 [] t) fun z39 t39 =>
        if t39 201 y2.toNat ≠ 4 then
          (bo (rc 17 [0] t39) fun z44 t44 =>
          if z44 ≠ 0 then
            (rc 64 [y1, y2, y3, y4] (up2 t44 201 y2.toNat (ipl (t44 201 y2.toNat) 1)))
          else
            (some (some (0, t44))))
        else
          (some (some (0, t39))))))
  else
    (bo (rc 5 [(24 : Int)] t) fun z54 t54 =>
    if z54 ≠ 0 then
      (bo (rc 8 [(24 : Int)] t) fun z56 t56 =>
      if z56 ≠ 0 then
        (if y1 = 0 then
          (bo (rc 35 [] (up2 ((rfg t56)) 200 y2.toNat ((rfg t56) 177 1))) fun z64 t64 =>
          if z64 ≠ 0 then
            (rc 65 [y2, y3, y4, 0] ((pt1 t64 12)))
          else
            (some (some (0, t64))))
        else
          (bo (rc 28 [0] (up2 ((rfg t56)) 200 y2.toNat ((rfg t56) 177 1))) fun z67 t67 =>
          if z67 = 0 then
            (some (some (0, t67)))
          else
            (rc 65 [y2, y3, y4, 0] ((pt1 t67 12)))))
      else
        (some (some (0, t56))))
    else
      (if t 201 y2.toNat ≤ 0 then
        (if t 201 y2.toNat ≠ 4 then
          (bo (rc 17 [0] t) fun z78 t78 =>
          if z78 ≠ 0 then
            (rc 64 [y1, y2, y3, y4] (up2 t78 201 y2.toNat (ipl (t78 201 y2.toNat) 1)))
          else
            (some (some (0, t78))))
        else
          (some (some (0, t))))
      else
        (bo (rc 4 [] t) fun z88 t88 =>
        if t88 201 y2.toNat ≠ 4 then
          (bo (rc 17 [0] t88) fun z93 t93 =>
          if z93 ≠ 0 then
            (rc 64 [y1, y2, y3, y4] (up2 t93 201 y2.toNat (ipl (t93 201 y2.toNat) 1)))
          else
            (some (some (0, t93))))
        else
          (some (some (0, t88))))))
theorem rM129_131_k {y1 y2 y3 y4 : Int} {t : tab} : Kn (fun rc => rM129_131 rc y1 y2 y3 y4 t) := by
  unfold rM129_131
  exact (Kn_if (Kn_bo Kn_r fun _ _ => (Kn_if (Kn_bo Kn_r fun _ _ => (Kn_if (Kn_if (Kn_bo Kn_r fun _ _ => (Kn_if Kn_r Kn_c)) (Kn_bo Kn_r fun _ _ => (Kn_if Kn_c Kn_r))) Kn_c)) (Kn_if (Kn_if (Kn_bo Kn_r fun _ _ => (Kn_if Kn_r Kn_c)) Kn_c) (Kn_bo Kn_r fun _ _ => (Kn_if (Kn_bo Kn_r fun _ _ => (Kn_if Kn_r Kn_c)) Kn_c))))) (Kn_bo Kn_r fun _ _ => (Kn_if (Kn_bo Kn_r fun _ _ => (Kn_if (Kn_if (Kn_bo Kn_r fun _ _ => (Kn_if Kn_r Kn_c)) (Kn_bo Kn_r fun _ _ => (Kn_if Kn_c Kn_r))) Kn_c)) (Kn_if (Kn_if (Kn_bo Kn_r fun _ _ => (Kn_if Kn_r Kn_c)) Kn_c) (Kn_bo Kn_r fun _ _ => (Kn_if (Kn_bo Kn_r fun _ _ => (Kn_if Kn_r Kn_c)) Kn_c))))))
/-- routine, at 277 -/
def rM129_277 (rc : MRq) (y2 y3 y4 y5 : Int) (t : tab) : RO :=
  if t 201 y2.toNat ≤ y5 then
    (some (some (1, up2 (up2 (up2 (up2 (up2 (up2 (up2 (up2 (up2 t 195 y2.toNat (t 170 22)) 196 y2.toNat (t 170 23)) 197 y2.toNat (t 170 24)) 198 y2.toNat (t 170 25)) 199 y2.toNat (lo (t 170 26) (lsl 1 y2))) 170 14 y4) 170 15 y3) 170 35 ((-1))) 170 37 0)))
  else
    (rc 65 [y2, y3, y4, y5 + 1] (up2 t 170 22 (lo (t 170 22) (lsl 1 (ipl (t 202 y2.toNat) y5)))))
theorem rM129_277_k {y2 y3 y4 y5 : Int} {t : tab} : Kn (fun rc => rM129_277 rc y2 y3 y4 y5 t) := by
  unfold rM129_277
  exact (Kn_if Kn_c Kn_r)
/-- declaration -/
def rM128 (rc : MRq) (t : tab) : RO :=
  bo (rc 5 [(6 : Int)] t) fun z1 t1 =>
  bo (rc 5 [(10 : Int)] t) fun z2 t2 =>
  bo (rc 5 [(18 : Int)] t) fun z3 t3 =>
  if z3 ≠ 0 then
    (bo (rc 36 [z3] t) fun z5 t5 =>
    some (some (z5, t5)))
  else
    (bo (rc 5 [(20 : Int)] t) fun z6 t6 =>
    if z6 = 0 then
      (bo (rc 5 [(8 : Int)] t) fun z8 t8 =>
      if z8 = 0 then
        (if z1 = 0 then
          (if z2 = 0 then
            (bo (rc 5 [(12 : Int)] t) fun z12 t12 =>
            bo (rc 5 [(14 : Int)] t) fun z13 t13 =>
            bo (rc 4 [] t) fun z14 t14 =>
            if z12 = 0 then
              (if z13 = 0 then
                (bo (rc 16 [t14 177 8, 4] t14) fun z18 t18 =>
                if z18 = 0 then
                  (some (some (0, t14)))
                else
                  (bo (rc 10 [4, t14 177 8] t14) fun z20 t20 =>
                  if z20 ≠ 0 then
                    (bo (rc 8 [(30 : Int)] (up2 t20 177 8 (ipl (t20 177 8) 1))) fun z25 t25 =>
                    some (some (z25, t25)))
                  else
                    (some (some (0, t20)))))
              else
                (bo (rc 16 [t14 177 7, 4] t14) fun z27 t27 =>
                if z27 = 0 then
                  (some (some (0, t14)))
                else
                  (bo (rc 10 [3, t14 177 7] t14) fun z29 t29 =>
                  if z29 ≠ 0 then
                    (bo (rc 8 [(30 : Int)] (up2 t29 177 7 (ipl (t29 177 7) 1))) fun z34 t34 =>
                    some (some (z34, t34)))
                  else
                    (some (some (0, t29))))))
            else
              (bo (rc 16 [t14 177 6, 8] t14) fun z36 t36 =>
              if z36 = 0 then
                (some (some (0, t14)))
              else
                (bo (rc 10 [2, t14 177 6] t14) fun z38 t38 =>
                if z38 ≠ 0 then
                  (bo (rc 8 [(30 : Int)] (up2 t38 177 6 (ipl (t38 177 6) 1))) fun z43 t43 =>
                  some (some (z43, t43)))
                else
                  (some (some (0, t38))))))
          else
            (bo (rc 4 [] t) fun z44 t44 =>
            bo (rc 16 [t44 177 5, 6] t44) fun z46 t46 =>
            if z46 = 0 then
              (some (some (0, t44)))
            else
              (bo (rc 10 [1, t44 177 5] t44) fun z49 t49 =>
              if z49 = 0 then
                (some (some (0, t49)))
              else
                (bo (rc 8 [(94 : Int)] t49) fun z51 t51 =>
                if z51 ≠ 0 then
                  (if t51 170 4 ≠ 3 then
                    (some (some (0, t51)))
                  else
                    (if inz (t51 170 7) 1 64 = 0 then
                      (some (some (0, t51)))
                    else
                      (bo (rc 39 [t51 170 7] t51) fun z62 t62 =>
                      if z62 = 1 then
                        (bo (rc 4 [] (up2 (up2 t62 180 ((t62 177 5).toNat) (t62 170 7)) 177 5 (ipl (t62 177 5) 1))) fun z72 t72 =>
                        bo (rc 8 [(44 : Int)] t72) fun z73 t73 =>
                        if z73 = 0 then
                          (some (some (0, t73)))
                        else
                          (bo (rc 8 [(30 : Int)] t73) fun z75 t75 =>
                          if z75 = 0 then
                            (some (some (0, t75)))
                          else
                            (some (some (1, t75)))))
                      else
                        (some (some (0, t62))))))
                else
                  (some (some (0, t51)))))))
        else
          (bo (rc 4 [] t) fun z78 t78 =>
          bo (rc 17 [16] t78) fun z79 t79 =>
          if z79 = 0 then
            (some (some (0, t79)))
          else
            (bo (rc 8 [(92 : Int)] t79) fun z81 t81 =>
            if z81 ≠ 0 then
              (if t81 170 4 ≠ 3 then
                (some (some (0, t81)))
              else
                (if inz (t81 170 7) 1 16 ≠ 0 then
                  (bo (rc 4 [] (up2 t81 179 ((imi (t81 177 4) 1).toNat) (t81 170 7))) fun z96 t96 =>
                  bo (rc 8 [(30 : Int)] t96) fun z97 t97 =>
                  some (some (z97, t97)))
                else
                  (some (some (0, t81)))))
            else
              (some (some (0, t81))))))
      else
        (bo (rc 4 [] t) fun z99 t99 =>
        bo (rc 17 [0] t99) fun z100 t100 =>
        if z100 = 0 then
          (some (some (0, t100)))
        else
          (bo (rc 8 [(30 : Int)] t100) fun z102 t102 =>
          if z102 = 0 then
            (some (some (0, t102)))
          else
            (some (some (1, t102))))))
    else
      (bo (rc 36 [z3] t) fun z104 t104 =>
      some (some (z104, t104))))
theorem rM128_k {t : tab} : Kn (fun rc => rM128 rc t) := by
  unfold rM128
  exact (Kn_bo Kn_r fun _ _ => (Kn_bo Kn_r fun _ _ => (Kn_bo Kn_r fun _ _ => (Kn_if (Kn_bo Kn_r fun _ _ => Kn_c) (Kn_bo Kn_r fun _ _ => (Kn_if (Kn_bo Kn_r fun _ _ => (Kn_if (Kn_if (Kn_if (Kn_bo Kn_r fun _ _ => (Kn_bo Kn_r fun _ _ => (Kn_bo Kn_r fun _ _ => (Kn_if (Kn_if (Kn_bo Kn_r fun _ _ => (Kn_if Kn_c (Kn_bo Kn_r fun _ _ => (Kn_if (Kn_bo Kn_r fun _ _ => Kn_c) Kn_c)))) (Kn_bo Kn_r fun _ _ => (Kn_if Kn_c (Kn_bo Kn_r fun _ _ => (Kn_if (Kn_bo Kn_r fun _ _ => Kn_c) Kn_c))))) (Kn_bo Kn_r fun _ _ => (Kn_if Kn_c (Kn_bo Kn_r fun _ _ => (Kn_if (Kn_bo Kn_r fun _ _ => Kn_c) Kn_c)))))))) (Kn_bo Kn_r fun _ _ => (Kn_bo Kn_r fun _ _ => (Kn_if Kn_c (Kn_bo Kn_r fun _ _ => (Kn_if Kn_c (Kn_bo Kn_r fun _ _ => (Kn_if (Kn_if Kn_c (Kn_if Kn_c (Kn_bo Kn_r fun _ _ => (Kn_if (Kn_bo Kn_r fun _ _ => (Kn_bo Kn_r fun _ _ => (Kn_if Kn_c (Kn_bo Kn_r fun _ _ => (Kn_if Kn_c Kn_c))))) Kn_c)))) Kn_c)))))))) (Kn_bo Kn_r fun _ _ => (Kn_bo Kn_r fun _ _ => (Kn_if Kn_c (Kn_bo Kn_r fun _ _ => (Kn_if (Kn_if Kn_c (Kn_if (Kn_bo Kn_r fun _ _ => (Kn_bo Kn_r fun _ _ => Kn_c)) Kn_c)) Kn_c)))))) (Kn_bo Kn_r fun _ _ => (Kn_bo Kn_r fun _ _ => (Kn_if Kn_c (Kn_bo Kn_r fun _ _ => (Kn_if Kn_c Kn_c))))))) (Kn_bo Kn_r fun _ _ => Kn_c)))))))
/-- read -/
def rM122 (rc : MRq) (t : tab) : RO :=
  bo (rc 4 [] (up2 (up2 (up2 (up2 (up2 (up2 (up2 (up2 (up2 (up2 (up2 (up2 (up2 (up2 (up2 (up2 (up2 (up2 (up2 t 177 1 0) 177 3 0) 177 4 0) 177 5 0) 177 6 0) 177 7 0) 177 8 0) 177 9 0) 177 10 0) 170 2 (t 170 1)) 170 1 0) 170 3 0) 170 21 ((-1))) 170 14 0) 170 15 0) 170 16 1) 170 35 ((-1))) 170 37 0) 170 36 0)) fun z22 t22 =>
  rc 66 [] t22
theorem rM122_k {t : tab} : Kn (fun rc => rM122 rc t) := by
  unfold rM122
  exact (Kn_bo Kn_r fun _ _ => Kn_r)
/-- read, at 142 -/
def rM122_142 (rc : MRq) (t : tab) : RO :=
  bo (rc 5 [(6 : Int)] t) fun z1 t1 =>
  if z1 ≠ 0 then
    (bo (rc 37 [] t) fun z3 t3 =>
    if z3 ≠ 0 then
      (rc 66 [] t3)
    else
      (some (some (0, t3))))
  else
    (bo (rc 5 [(8 : Int)] t) fun z5 t5 =>
    if z5 ≠ 0 then
      (bo (rc 37 [] t) fun z7 t7 =>
      if z7 ≠ 0 then
        (rc 66 [] t7)
      else
        (some (some (0, t7))))
    else
      (bo (rc 5 [(10 : Int)] t) fun z9 t9 =>
      if z9 ≠ 0 then
        (bo (rc 37 [] t) fun z11 t11 =>
        if z11 ≠ 0 then
          (rc 66 [] t11)
        else
          (some (some (0, t11))))
      else
        (bo (rc 5 [(12 : Int)] t) fun z13 t13 =>
        if z13 ≠ 0 then
          (bo (rc 37 [] t) fun z15 t15 =>
          if z15 ≠ 0 then
            (rc 66 [] t15)
          else
            (some (some (0, t15))))
        else
          (bo (rc 5 [(14 : Int)] t) fun z17 t17 =>
          if z17 ≠ 0 then
            (bo (rc 37 [] t) fun z19 t19 =>
            if z19 ≠ 0 then
              (rc 66 [] t19)
            else
              (some (some (0, t19))))
          else
            (bo (rc 5 [(16 : Int)] t) fun z21 t21 =>
            if z21 ≠ 0 then
              (bo (rc 37 [] t) fun z23 t23 =>
              if z23 ≠ 0 then
                (rc 66 [] t23)
              else
                (some (some (0, t23))))
            else
              (bo (rc 5 [(18 : Int)] t) fun z25 t25 =>
              if z25 ≠ 0 then
                (bo (rc 37 [] t) fun z27 t27 =>
                if z27 ≠ 0 then
                  (rc 66 [] t27)
                else
                  (some (some (0, t27))))
              else
                (bo (rc 5 [(20 : Int)] t) fun z29 t29 =>
                if z29 = 0 then
                  (rc 67 [0] (up2 t 177 18 0))
                else
                  (bo (rc 37 [] t) fun z32 t32 =>
                  if z32 ≠ 0 then
                    (rc 66 [] t32)
                  else
                    (some (some (0, t32)))))))))))
theorem rM122_142_k {t : tab} : Kn (fun rc => rM122_142 rc t) := by
  unfold rM122_142
  exact (Kn_bo Kn_r fun _ _ => (Kn_if (Kn_bo Kn_r fun _ _ => (Kn_if Kn_r Kn_c)) (Kn_bo Kn_r fun _ _ => (Kn_if (Kn_bo Kn_r fun _ _ => (Kn_if Kn_r Kn_c)) (Kn_bo Kn_r fun _ _ => (Kn_if (Kn_bo Kn_r fun _ _ => (Kn_if Kn_r Kn_c)) (Kn_bo Kn_r fun _ _ => (Kn_if (Kn_bo Kn_r fun _ _ => (Kn_if Kn_r Kn_c)) (Kn_bo Kn_r fun _ _ => (Kn_if (Kn_bo Kn_r fun _ _ => (Kn_if Kn_r Kn_c)) (Kn_bo Kn_r fun _ _ => (Kn_if (Kn_bo Kn_r fun _ _ => (Kn_if Kn_r Kn_c)) (Kn_bo Kn_r fun _ _ => (Kn_if (Kn_bo Kn_r fun _ _ => (Kn_if Kn_r Kn_c)) (Kn_bo Kn_r fun _ _ => (Kn_if Kn_r (Kn_bo Kn_r fun _ _ => (Kn_if Kn_r Kn_c))))))))))))))))))
/-- read, at 233 -/
def rM122_233 (rc : MRq) (y1 : Int) (t : tab) : RO :=
  if t 170 14 ≤ y1 then
    (bo (rc 28 [0] ((rop ((rfg (up2 ((cpt t 181 171 (t 170 2))) 177 2 (t 177 1))))))) fun z9 t9 =>
    if z9 ≠ 0 then
      (if t9 170 4 = 0 then
        (if t9 170 21 < 0 then
          (some (some (1, (pt1 t9 21))))
        else
          (some (some (0, (pt1 t9 21)))))
      else
        (some (some (0, (pt1 t9 21)))))
    else
      (some (some (0, t9))))
  else
    (if t 174 y1.toNat ≤ 1 then
      (rc 67 [y1 + 1] (up2 (up2 (up2 (up2 (up2 t 182 ((t 177 18).toNat) (t 172 y1.toNat)) 183 ((t 177 18).toNat) (t 173 y1.toNat)) 184 ((t 177 18).toNat) (t 174 y1.toNat)) 185 ((t 177 18).toNat) (t 175 y1.toNat)) 177 18 (ipl (t 177 18) 1)))
    else
      (rc 67 [y1 + 1] t))
theorem rM122_233_k {y1 : Int} {t : tab} : Kn (fun rc => rM122_233 rc y1 t) := by
  unfold rM122_233
  exact (Kn_if (Kn_bo Kn_r fun _ _ => (Kn_if (Kn_if (Kn_if Kn_c Kn_c) Kn_c) Kn_c)) (Kn_if Kn_r Kn_r))
/-- bitCount -/
def rM76 (rc : MRq) (x0 : Int) (t : tab) : RO :=
  some (some (ian (ipl (ipl (ian (ipl (ipl (ian (imi x0 (ian (iur x0 1) 1431655765)) 858993459) (ian (iur (imi x0 (ian (iur x0 1) 1431655765)) 2) 858993459)) (iur (ipl (ian (imi x0 (ian (iur x0 1) 1431655765)) 858993459) (ian (iur (imi x0 (ian (iur x0 1) 1431655765)) 2) 858993459)) 4)) 252645135) (iur (ian (ipl (ipl (ian (imi x0 (ian (iur x0 1) 1431655765)) 858993459) (ian (iur (imi x0 (ian (iur x0 1) 1431655765)) 2) 858993459)) (iur (ipl (ian (imi x0 (ian (iur x0 1) 1431655765)) 858993459) (ian (iur (imi x0 (ian (iur x0 1) 1431655765)) 2) 858993459)) 4)) 252645135) 8)) (iur (ipl (ian (ipl (ipl (ian (imi x0 (ian (iur x0 1) 1431655765)) 858993459) (ian (iur (imi x0 (ian (iur x0 1) 1431655765)) 2) 858993459)) (iur (ipl (ian (imi x0 (ian (iur x0 1) 1431655765)) 858993459) (ian (iur (imi x0 (ian (iur x0 1) 1431655765)) 2) 858993459)) 4)) 252645135) (iur (ian (ipl (ipl (ian (imi x0 (ian (iur x0 1) 1431655765)) 858993459) (ian (iur (imi x0 (ian (iur x0 1) 1431655765)) 2) 858993459)) (iur (ipl (ian (imi x0 (ian (iur x0 1) 1431655765)) 858993459) (ian (iur (imi x0 (ian (iur x0 1) 1431655765)) 2) 858993459)) 4)) 252645135) 8)) 16)) 63, t))
theorem rM76_k {x0 : Int} {t : tab} : Kn (fun rc => rM76 rc x0 t) := by
  unfold rM76
  exact Kn_c
def rL : List (MRq → List Int → tab → RO) := [
  fun rc xs t => rM120 rc (xs.getD 0 0) (xs.getD 1 0) (xs.getD 2 0) t,
  fun rc xs t => rM124 rc (xs.getD 0 0) t,
  fun rc xs t => rM125 rc (xs.getD 0 0) t,
  fun rc xs t => rM126 rc t,
  fun rc xs t => rM123 rc t,
  fun rc xs t => rM127 rc (xs.getD 0 0) t,
  fun rc xs t => rM132 rc t,
  fun rc xs t => rM131 rc t,
  fun rc xs t => rM136 rc (xs.getD 0 0) t,
  fun rc xs t => rM134 rc t,
  fun rc xs t => rM133 rc (xs.getD 0 0) (xs.getD 1 0) t,
  fun rc xs t => rM140 rc (xs.getD 0 0) t,
  fun rc xs t => rM147 rc (xs.getD 0 0) (xs.getD 1 0) t,
  fun rc xs t => rM142 rc t,
  fun rc xs t => rM138 rc t,
  fun rc xs t => rM135 rc t,
  fun rc xs t => rM130 rc (xs.getD 0 0) (xs.getD 1 0) t,
  fun rc xs t => rM137 rc (xs.getD 0 0) t,
  fun rc xs t => rM158 rc (xs.getD 0 0) (xs.getD 1 0) t,
  fun rc xs t => rM148 rc (xs.getD 0 0) t,
  fun rc xs t => rM151 rc t,
  fun rc xs t => rM152 rc t,
  fun rc xs t => rM144 rc (xs.getD 0 0) (xs.getD 1 0) t,
  fun rc xs t => rM145 rc (xs.getD 0 0) t,
  fun rc xs t => rM146 rc (xs.getD 0 0) t,
  fun rc xs t => rM149 rc (xs.getD 0 0) (xs.getD 1 0) t,
  fun rc xs t => rM150 rc (xs.getD 0 0) (xs.getD 1 0) (xs.getD 2 0) t,
  fun rc xs t => rM157 rc (xs.getD 0 0) (xs.getD 1 0) t,
  fun rc xs t => rM139 rc (xs.getD 0 0) t,
  fun rc xs t => rM141 rc (xs.getD 0 0) t,
  fun rc xs t => rM143 rc (xs.getD 0 0) t,
  fun rc xs t => rM153 rc (xs.getD 0 0) t,
  fun rc xs t => rM154 rc (xs.getD 0 0) t,
  fun rc xs t => rM155 rc (xs.getD 0 0) t,
  fun rc xs t => rM156 rc (xs.getD 0 0) t,
  fun rc xs t => rM159 rc t,
  fun rc xs t => rM129 rc (xs.getD 0 0) t,
  fun rc xs t => rM128 rc t,
  fun rc xs t => rM122 rc t,
  fun rc xs t => rM76 rc (xs.getD 0 0) t,
  fun rc xs t => rM126_15 rc (xs.getD 0 0) (xs.getD 1 0) t,
  fun rc xs t => rM126_61 rc (xs.getD 0 0) (xs.getD 1 0) (xs.getD 2 0) (xs.getD 3 0) t,
  fun rc xs t => rM123_99999 rc t,
  fun rc xs t => rM123_340 rc (xs.getD 0 0) (xs.getD 1 0) t,
  fun rc xs t => rM123_213 rc t,
  fun rc xs t => rM123_94 rc t,
  fun rc xs t => rM123_484 rc (xs.getD 0 0) (xs.getD 1 0) (xs.getD 2 0) t,
  fun rc xs t => rM123_549 rc (xs.getD 0 0) (xs.getD 1 0) t,
  fun rc xs t => rM127_36 rc (xs.getD 0 0) (xs.getD 1 0) t,
  fun rc xs t => rM134_7 rc (xs.getD 0 0) t,
  fun rc xs t => rM134_44 rc (xs.getD 0 0) (xs.getD 1 0) (xs.getD 2 0) t,
  fun rc xs t => rM148_5 rc (xs.getD 0 0) (xs.getD 1 0) t,
  fun rc xs t => rM144_25 rc (xs.getD 0 0) (xs.getD 1 0) t,
  fun rc xs t => rM149_6 rc (xs.getD 0 0) (xs.getD 1 0) (xs.getD 2 0) t,
  fun rc xs t => rM150_31 rc (xs.getD 0 0) (xs.getD 1 0) (xs.getD 2 0) (xs.getD 3 0) t,
  fun rc xs t => rM150_128 rc (xs.getD 0 0) (xs.getD 1 0) (xs.getD 2 0) t,
  fun rc xs t => rM139_26 rc (xs.getD 0 0) (xs.getD 1 0) (xs.getD 2 0) (xs.getD 3 0) t,
  fun rc xs t => rM139_58 rc (xs.getD 0 0) (xs.getD 1 0) (xs.getD 2 0) (xs.getD 3 0) t,
  fun rc xs t => rM155_53 rc (xs.getD 0 0) (xs.getD 1 0) (xs.getD 2 0) (xs.getD 3 0) (xs.getD 4 0) (xs.getD 5 0) t,
  fun rc xs t => rM155_134 rc (xs.getD 0 0) (xs.getD 1 0) (xs.getD 2 0) (xs.getD 3 0) (xs.getD 4 0) (xs.getD 5 0) (xs.getD 6 0) (xs.getD 7 0) (xs.getD 8 0) (xs.getD 9 0) (xs.getD 10 0) (xs.getD 11 0) (xs.getD 12 0) (xs.getD 13 0) (xs.getD 14 0) (xs.getD 15 0) (xs.getD 16 0) t,
  fun rc xs t => rM155_273 rc (xs.getD 0 0) (xs.getD 1 0) (xs.getD 2 0) (xs.getD 3 0) (xs.getD 4 0) (xs.getD 5 0) (xs.getD 6 0) (xs.getD 7 0) (xs.getD 8 0) (xs.getD 9 0) (xs.getD 10 0) (xs.getD 11 0) (xs.getD 12 0) (xs.getD 13 0) (xs.getD 14 0) (xs.getD 15 0) (xs.getD 16 0) (xs.getD 17 0) t,
  fun rc xs t => rM156_164 rc (xs.getD 0 0) (xs.getD 1 0) (xs.getD 2 0) (xs.getD 3 0) (xs.getD 4 0) (xs.getD 5 0) t,
  fun rc xs t => rM159_12 rc t,
  fun rc xs t => rM159_44 rc t,
  fun rc xs t => rM129_131 rc (xs.getD 0 0) (xs.getD 1 0) (xs.getD 2 0) (xs.getD 3 0) t,
  fun rc xs t => rM129_277 rc (xs.getD 0 0) (xs.getD 1 0) (xs.getD 2 0) (xs.getD 3 0) t,
  fun rc xs t => rM122_142 rc t,
  fun rc xs t => rM122_233 rc (xs.getD 0 0) t]
def rB (rc : MRq) : MRq := fun i xs t => match rL[i]? with
  | some F => F rc xs t
  | none => none
theorem rL_k : ∀ F ∈ rL, ∀ xs t, Kn (fun rc => F rc xs t) := by
  unfold rL
  simp only [List.forall_mem_cons]
  exact ⟨fun _ _ => rM120_k, fun _ _ => rM124_k, fun _ _ => rM125_k, fun _ _ => rM126_k, fun _ _ => rM123_k, fun _ _ => rM127_k, fun _ _ => rM132_k, fun _ _ => rM131_k, fun _ _ => rM136_k, fun _ _ => rM134_k, fun _ _ => rM133_k, fun _ _ => rM140_k, fun _ _ => rM147_k, fun _ _ => rM142_k, fun _ _ => rM138_k, fun _ _ => rM135_k, fun _ _ => rM130_k, fun _ _ => rM137_k, fun _ _ => rM158_k, fun _ _ => rM148_k, fun _ _ => rM151_k, fun _ _ => rM152_k, fun _ _ => rM144_k, fun _ _ => rM145_k, fun _ _ => rM146_k, fun _ _ => rM149_k, fun _ _ => rM150_k, fun _ _ => rM157_k, fun _ _ => rM139_k, fun _ _ => rM141_k, fun _ _ => rM143_k, fun _ _ => rM153_k, fun _ _ => rM154_k, fun _ _ => rM155_k, fun _ _ => rM156_k, fun _ _ => rM159_k, fun _ _ => rM129_k, fun _ _ => rM128_k, fun _ _ => rM122_k, fun _ _ => rM76_k, fun _ _ => rM126_15_k, fun _ _ => rM126_61_k, fun _ _ => rM123_99999_k, fun _ _ => rM123_340_k, fun _ _ => rM123_213_k, fun _ _ => rM123_94_k, fun _ _ => rM123_484_k, fun _ _ => rM123_549_k, fun _ _ => rM127_36_k, fun _ _ => rM134_7_k, fun _ _ => rM134_44_k, fun _ _ => rM148_5_k, fun _ _ => rM144_25_k, fun _ _ => rM149_6_k, fun _ _ => rM150_31_k, fun _ _ => rM150_128_k, fun _ _ => rM139_26_k, fun _ _ => rM139_58_k, fun _ _ => rM155_53_k, fun _ _ => rM155_134_k, fun _ _ => rM155_273_k, fun _ _ => rM156_164_k, fun _ _ => rM159_12_k, fun _ _ => rM159_44_k, fun _ _ => rM129_131_k, fun _ _ => rM129_277_k, fun _ _ => rM122_142_k, fun _ _ => rM122_233_k, fun F hF => absurd hF (by simp)⟩
theorem rB_k (i : Nat) (xs : List Int) (t : tab) : Kn (fun rc => rB rc i xs t) := by
  unfold rB
  cases e : rL[i]? with
  | none => exact Kn_c
  | some F => exact rL_k F (List.mem_of_getElem? e) xs t
noncomputable def rG : MRq := lim rB
theorem rG_120 {t : tab} {a0 a1 a2 : Int} : rG 0 [a0, a1, a2] t = rM120 rG a0 a1 a2 t := lim_eq rB_k 0 _ t
theorem rG_124 {t : tab} {a0 : Int} : rG 1 [a0] t = rM124 rG a0 t := lim_eq rB_k 1 _ t
theorem rG_125 {t : tab} {a0 : Int} : rG 2 [a0] t = rM125 rG a0 t := lim_eq rB_k 2 _ t
theorem rG_126 {t : tab} : rG 3 [] t = rM126 rG t := lim_eq rB_k 3 _ t
theorem rG_123 {t : tab} : rG 4 [] t = rM123 rG t := lim_eq rB_k 4 _ t
theorem rG_127 {t : tab} {a0 : Int} : rG 5 [a0] t = rM127 rG a0 t := lim_eq rB_k 5 _ t
theorem rG_132 {t : tab} : rG 6 [] t = rM132 rG t := lim_eq rB_k 6 _ t
theorem rG_131 {t : tab} : rG 7 [] t = rM131 rG t := lim_eq rB_k 7 _ t
theorem rG_136 {t : tab} {a0 : Int} : rG 8 [a0] t = rM136 rG a0 t := lim_eq rB_k 8 _ t
theorem rG_134 {t : tab} : rG 9 [] t = rM134 rG t := lim_eq rB_k 9 _ t
theorem rG_133 {t : tab} {a0 a1 : Int} : rG 10 [a0, a1] t = rM133 rG a0 a1 t := lim_eq rB_k 10 _ t
theorem rG_140 {t : tab} {a0 : Int} : rG 11 [a0] t = rM140 rG a0 t := lim_eq rB_k 11 _ t
theorem rG_147 {t : tab} {a0 a1 : Int} : rG 12 [a0, a1] t = rM147 rG a0 a1 t := lim_eq rB_k 12 _ t
theorem rG_142 {t : tab} : rG 13 [] t = rM142 rG t := lim_eq rB_k 13 _ t
theorem rG_138 {t : tab} : rG 14 [] t = rM138 rG t := lim_eq rB_k 14 _ t
theorem rG_135 {t : tab} : rG 15 [] t = rM135 rG t := lim_eq rB_k 15 _ t
theorem rG_130 {t : tab} {a0 a1 : Int} : rG 16 [a0, a1] t = rM130 rG a0 a1 t := lim_eq rB_k 16 _ t
theorem rG_137 {t : tab} {a0 : Int} : rG 17 [a0] t = rM137 rG a0 t := lim_eq rB_k 17 _ t
theorem rG_158 {t : tab} {a0 a1 : Int} : rG 18 [a0, a1] t = rM158 rG a0 a1 t := lim_eq rB_k 18 _ t
theorem rG_148 {t : tab} {a0 : Int} : rG 19 [a0] t = rM148 rG a0 t := lim_eq rB_k 19 _ t
theorem rG_151 {t : tab} : rG 20 [] t = rM151 rG t := lim_eq rB_k 20 _ t
theorem rG_152 {t : tab} : rG 21 [] t = rM152 rG t := lim_eq rB_k 21 _ t
theorem rG_144 {t : tab} {a0 a1 : Int} : rG 22 [a0, a1] t = rM144 rG a0 a1 t := lim_eq rB_k 22 _ t
theorem rG_145 {t : tab} {a0 : Int} : rG 23 [a0] t = rM145 rG a0 t := lim_eq rB_k 23 _ t
theorem rG_146 {t : tab} {a0 : Int} : rG 24 [a0] t = rM146 rG a0 t := lim_eq rB_k 24 _ t
theorem rG_149 {t : tab} {a0 a1 : Int} : rG 25 [a0, a1] t = rM149 rG a0 a1 t := lim_eq rB_k 25 _ t
theorem rG_150 {t : tab} {a0 a1 a2 : Int} : rG 26 [a0, a1, a2] t = rM150 rG a0 a1 a2 t := lim_eq rB_k 26 _ t
theorem rG_157 {t : tab} {a0 a1 : Int} : rG 27 [a0, a1] t = rM157 rG a0 a1 t := lim_eq rB_k 27 _ t
theorem rG_139 {t : tab} {a0 : Int} : rG 28 [a0] t = rM139 rG a0 t := lim_eq rB_k 28 _ t
theorem rG_141 {t : tab} {a0 : Int} : rG 29 [a0] t = rM141 rG a0 t := lim_eq rB_k 29 _ t
theorem rG_143 {t : tab} {a0 : Int} : rG 30 [a0] t = rM143 rG a0 t := lim_eq rB_k 30 _ t
theorem rG_153 {t : tab} {a0 : Int} : rG 31 [a0] t = rM153 rG a0 t := lim_eq rB_k 31 _ t
theorem rG_154 {t : tab} {a0 : Int} : rG 32 [a0] t = rM154 rG a0 t := lim_eq rB_k 32 _ t
theorem rG_155 {t : tab} {a0 : Int} : rG 33 [a0] t = rM155 rG a0 t := lim_eq rB_k 33 _ t
theorem rG_156 {t : tab} {a0 : Int} : rG 34 [a0] t = rM156 rG a0 t := lim_eq rB_k 34 _ t
theorem rG_159 {t : tab} : rG 35 [] t = rM159 rG t := lim_eq rB_k 35 _ t
theorem rG_129 {t : tab} {a0 : Int} : rG 36 [a0] t = rM129 rG a0 t := lim_eq rB_k 36 _ t
theorem rG_128 {t : tab} : rG 37 [] t = rM128 rG t := lim_eq rB_k 37 _ t
theorem rG_122 {t : tab} : rG 38 [] t = rM122 rG t := lim_eq rB_k 38 _ t
theorem rG_76 {t : tab} {a0 : Int} : rG 39 [a0] t = rM76 rG a0 t := lim_eq rB_k 39 _ t
theorem rG_126_15 {t : tab} {a0 a1 : Int} : rG 40 [a0, a1] t = rM126_15 rG a0 a1 t := lim_eq rB_k 40 _ t
theorem rG_126_61 {t : tab} {a0 a1 a2 a3 : Int} : rG 41 [a0, a1, a2, a3] t = rM126_61 rG a0 a1 a2 a3 t := lim_eq rB_k 41 _ t
theorem rG_123_99999 {t : tab} : rG 42 [] t = rM123_99999 rG t := lim_eq rB_k 42 _ t
theorem rG_123_340 {t : tab} {a0 a1 : Int} : rG 43 [a0, a1] t = rM123_340 rG a0 a1 t := lim_eq rB_k 43 _ t
theorem rG_123_213 {t : tab} : rG 44 [] t = rM123_213 rG t := lim_eq rB_k 44 _ t
theorem rG_123_94 {t : tab} : rG 45 [] t = rM123_94 rG t := lim_eq rB_k 45 _ t
theorem rG_123_484 {t : tab} {a0 a1 a2 : Int} : rG 46 [a0, a1, a2] t = rM123_484 rG a0 a1 a2 t := lim_eq rB_k 46 _ t
theorem rG_123_549 {t : tab} {a0 a1 : Int} : rG 47 [a0, a1] t = rM123_549 rG a0 a1 t := lim_eq rB_k 47 _ t
theorem rG_127_36 {t : tab} {a0 a1 : Int} : rG 48 [a0, a1] t = rM127_36 rG a0 a1 t := lim_eq rB_k 48 _ t
theorem rG_134_7 {t : tab} {a0 : Int} : rG 49 [a0] t = rM134_7 rG a0 t := lim_eq rB_k 49 _ t
theorem rG_134_44 {t : tab} {a0 a1 a2 : Int} : rG 50 [a0, a1, a2] t = rM134_44 rG a0 a1 a2 t := lim_eq rB_k 50 _ t
theorem rG_148_5 {t : tab} {a0 a1 : Int} : rG 51 [a0, a1] t = rM148_5 rG a0 a1 t := lim_eq rB_k 51 _ t
theorem rG_144_25 {t : tab} {a0 a1 : Int} : rG 52 [a0, a1] t = rM144_25 rG a0 a1 t := lim_eq rB_k 52 _ t
theorem rG_149_6 {t : tab} {a0 a1 a2 : Int} : rG 53 [a0, a1, a2] t = rM149_6 rG a0 a1 a2 t := lim_eq rB_k 53 _ t
theorem rG_150_31 {t : tab} {a0 a1 a2 a3 : Int} : rG 54 [a0, a1, a2, a3] t = rM150_31 rG a0 a1 a2 a3 t := lim_eq rB_k 54 _ t
theorem rG_150_128 {t : tab} {a0 a1 a2 : Int} : rG 55 [a0, a1, a2] t = rM150_128 rG a0 a1 a2 t := lim_eq rB_k 55 _ t
theorem rG_139_26 {t : tab} {a0 a1 a2 a3 : Int} : rG 56 [a0, a1, a2, a3] t = rM139_26 rG a0 a1 a2 a3 t := lim_eq rB_k 56 _ t
theorem rG_139_58 {t : tab} {a0 a1 a2 a3 : Int} : rG 57 [a0, a1, a2, a3] t = rM139_58 rG a0 a1 a2 a3 t := lim_eq rB_k 57 _ t
theorem rG_155_53 {t : tab} {a0 a1 a2 a3 a4 a5 : Int} : rG 58 [a0, a1, a2, a3, a4, a5] t = rM155_53 rG a0 a1 a2 a3 a4 a5 t := lim_eq rB_k 58 _ t
theorem rG_155_134 {t : tab} {a0 a1 a2 a3 a4 a5 a6 a7 a8 a9 a10 a11 a12 a13 a14 a15 a16 : Int} : rG 59 [a0, a1, a2, a3, a4, a5, a6, a7, a8, a9, a10, a11, a12, a13, a14, a15, a16] t = rM155_134 rG a0 a1 a2 a3 a4 a5 a6 a7 a8 a9 a10 a11 a12 a13 a14 a15 a16 t := lim_eq rB_k 59 _ t
theorem rG_155_273 {t : tab} {a0 a1 a2 a3 a4 a5 a6 a7 a8 a9 a10 a11 a12 a13 a14 a15 a16 a17 : Int} : rG 60 [a0, a1, a2, a3, a4, a5, a6, a7, a8, a9, a10, a11, a12, a13, a14, a15, a16, a17] t = rM155_273 rG a0 a1 a2 a3 a4 a5 a6 a7 a8 a9 a10 a11 a12 a13 a14 a15 a16 a17 t := lim_eq rB_k 60 _ t
theorem rG_156_164 {t : tab} {a0 a1 a2 a3 a4 a5 : Int} : rG 61 [a0, a1, a2, a3, a4, a5] t = rM156_164 rG a0 a1 a2 a3 a4 a5 t := lim_eq rB_k 61 _ t
theorem rG_159_12 {t : tab} : rG 62 [] t = rM159_12 rG t := lim_eq rB_k 62 _ t
theorem rG_159_44 {t : tab} : rG 63 [] t = rM159_44 rG t := lim_eq rB_k 63 _ t
theorem rG_129_131 {t : tab} {a0 a1 a2 a3 : Int} : rG 64 [a0, a1, a2, a3] t = rM129_131 rG a0 a1 a2 a3 t := lim_eq rB_k 64 _ t
theorem rG_129_277 {t : tab} {a0 a1 a2 a3 : Int} : rG 65 [a0, a1, a2, a3] t = rM129_277 rG a0 a1 a2 a3 t := lim_eq rB_k 65 _ t
theorem rG_122_142 {t : tab} : rG 66 [] t = rM122_142 rG t := lim_eq rB_k 66 _ t
theorem rG_122_233 {t : tab} {a0 : Int} : rG 67 [a0] t = rM122_233 rG a0 t := lim_eq rB_k 67 _ t
def rT120 (K d C : Nat) : Prop := ∀ (s : rS) (t : tab) (x0 : Int) (x2 : Int) (x4 : Int), EE rPP C t s → i64 x0 → i64 x2 → i64 x4 → pcr K d 120 [vl x0, vl x2, vl x4] s (MQx rPP C 3 (rG 0 [x0, x2, x4] t))
def rT124 (K d C : Nat) : Prop := ∀ (s : rS) (t : tab) (x0 : Int), EE rPP C t s → i32 x0 → pcr K d 124 [vi x0] s (MQx rPP C 3 (rG 1 [x0] t))
def rT125 (K d C : Nat) : Prop := ∀ (s : rS) (t : tab) (x0 : Int), EE rPP C t s → i32 x0 → pcr K d 125 [vi x0] s (MQx rPP C 3 (rG 2 [x0] t))
def rT126 (K d C : Nat) : Prop := ∀ (s : rS) (t : tab) , EE rPP C t s → pcr K d 126 [.ref 170] s (MQx rPP C 3 (rG 3 [] t))
def rU126_0 (N K d C : Nat) : Prop := ∀ (s : rS) (t : tab) (y3 : Int) (y2 : Int), EE rPP C t s → i32 y3 → i32 y2 → pr N K d tb_M126 15 [(3, vi y3), (2, vi y2), (1, .ref 4), (0, .ref 170)] [] s (MQx rPP C 3 (rG 40 [y2, y3] t))
def rU126_1 (N K d C : Nat) : Prop := ∀ (s : rS) (t : tab) (y5 : Int) (y4 : Int) (y3 : Int) (y2 : Int), EE rPP C t s → i32 y5 → i32 y4 → i32 y3 → i32 y2 → pr N K d tb_M126 61 [(5, vi y5), (4, vi y4), (3, vi y3), (2, vi y2), (1, .ref 4), (0, .ref 170)] [] s (MQx rPP C 3 (rG 41 [y2, y3, y4, y5] t))
def rU126_2 (N K d C : Nat) : Prop := ∀ (s : rS) (t : tab) (y3 : Int) (y5 : Int) (y4 : Int) (y2 : Int), EE rPP C t s → i32 y3 → i32 y5 → i32 y4 → i32 y2 → pr N K d tb_M126 15 [(3, vi y3), (5, vi y5), (4, vi y4), (2, vi y2), (1, .ref 4), (0, .ref 170)] [] s (MQx rPP C 3 (rG 40 [y2, y3] t))
def rA126 (N K d C : Nat) : Prop := rU126_0 N K d C ∧ rU126_1 N K d C ∧ rU126_2 N K d C
def rT123 (K d C : Nat) : Prop := ∀ (s : rS) (t : tab) , EE rPP C t s → pcr K d 123 [.ref 170] s (MQx rPP C 0 (rG 4 [] t))
def rU123_0 (N K d C : Nat) : Prop := ∀ (s : rS) (t : tab) , EE rPP C t s → pr N K d tb_M123 0 [(0, .ref 170)] [] s (MQx rPP C 0 (rG 42 [] t))
def rU123_1 (N K d C : Nat) : Prop := ∀ (s : rS) (t : tab) (y1 : Int) (ys0 : Int), EE rPP C t s → i32 y1 → i32 ys0 → pr N K d tb_M123 340 [(1, vi y1), (0, .ref 170)] [vi ys0] s (MQx rPP C 0 (rG 43 [y1, ys0] t))
def rU123_2 (N K d C : Nat) : Prop := ∀ (s : rS) (t : tab) , EE rPP C t s → pr N K d tb_M123 213 [(0, .ref 170)] [] s (MQx rPP C 0 (rG 44 [] t))
def rU123_3 (N K d C : Nat) : Prop := ∀ (s : rS) (t : tab) , EE rPP C t s → pr N K d tb_M123 94 [(0, .ref 170)] [] s (MQx rPP C 0 (rG 45 [] t))
def rU123_4 (N K d C : Nat) : Prop := ∀ (s : rS) (t : tab) (y2 : Int) (y1 : Int) (ys0 : Int), EE rPP C t s → i32 y2 → i32 y1 → i32 ys0 → pr N K d tb_M123 484 [(2, vi y2), (1, vi y1), (0, .ref 170)] [vi ys0] s (MQx rPP C 0 (rG 46 [y1, y2, ys0] t))
def rU123_5 (N K d C : Nat) : Prop := ∀ (s : rS) (t : tab) (y3 : Int) (y2 : Int) (y1 : Int) (ys0 : Int), EE rPP C t s → i32 y3 → i32 y2 → i32 y1 → i32 ys0 → pr N K d tb_M123 549 [(3, vi y3), (2, vi y2), (1, vi y1), (0, .ref 170)] [vi ys0] s (MQx rPP C 0 (rG 47 [y3, ys0] t))
def rA123 (N K d C : Nat) : Prop := rU123_0 N K d C ∧ rU123_1 N K d C ∧ rU123_2 N K d C ∧ rU123_3 N K d C ∧ rU123_4 N K d C ∧ rU123_5 N K d C
def rT127 (K d C : Nat) : Prop := ∀ (s : rS) (t : tab) (x1 : Nat), EE rPP C t s → isX x1 → pcr K d 127 [.ref 170, .ref x1] s (MQx rPP C 3 (rG 5 [(x1 : Int)] t))
def rU127_0 (N K d C : Nat) : Prop := ∀ (s : rS) (t : tab) (y2 : Int) (x1 : Nat), EE rPP C t s → i32 y2 → isX x1 → pr N K d tb_M127 36 [(2, vi y2), (0, .ref 170), (1, .ref x1)] [] s (MQx rPP C 3 (rG 48 [(x1 : Int), y2] t))
def rA127 (N K d C : Nat) : Prop := rU127_0 N K d C
def rT132 (K d C : Nat) : Prop := ∀ (s : rS) (t : tab) (x1 : Int), EE rPP C t s → i32 x1 → pcr K d 132 [.ref 170, vi x1] s (MQx rPP C 3 (rG 6 [] t))
def rT131 (K d C : Nat) : Prop := ∀ (s : rS) (t : tab) , EE rPP C t s → pcr K d 131 [.ref 170] s (MQx rPP C 3 (rG 7 [] t))
def rT136 (K d C : Nat) : Prop := ∀ (s : rS) (t : tab) (x1 : Nat), EE rPP C t s → isX x1 → pcr K d 136 [.ref 170, .ref x1] s (MQx rPP C 3 (rG 8 [(x1 : Int)] t))
def rT134 (K d C : Nat) : Prop := ∀ (s : rS) (t : tab) , EE rPP C t s → pcr K d 134 [.ref 170] s (MQx rPP C 1 (rG 9 [] t))
def rU134_0 (N K d C : Nat) : Prop := ∀ (s : rS) (t : tab) (y1 : Int), EE rPP C t s → i32 y1 → pr N K d tb_M134 7 [(1, vi y1), (0, .ref 170)] [] s (MQx rPP C 1 (rG 49 [y1] t))
def rU134_1 (N K d C : Nat) : Prop := ∀ (s : rS) (t : tab) (y3 : Int) (y2 : Int) (y1 : Int), EE rPP C t s → i32 y3 → i32 y2 → i32 y1 → pr N K d tb_M134 44 [(3, vi y3), (2, vi y2), (1, vi y1), (0, .ref 170)] [] s (MQx rPP C 1 (rG 50 [y1, y2, y3] t))
def rU134_2 (N K d C : Nat) : Prop := ∀ (s : rS) (t : tab) (y1 : Int) (y3 : Int) (y2 : Int), EE rPP C t s → i32 y1 → i32 y3 → i32 y2 → pr N K d tb_M134 7 [(1, vi y1), (3, vi y3), (2, vi y2), (0, .ref 170)] [] s (MQx rPP C 1 (rG 49 [y1] t))
def rA134 (N K d C : Nat) : Prop := rU134_0 N K d C ∧ rU134_1 N K d C ∧ rU134_2 N K d C
def rT133 (K d C : Nat) : Prop := ∀ (s : rS) (t : tab) (x1 : Int) (x2 : Int), EE rPP C t s → i32 x1 → i32 x2 → pcr K d 133 [.ref 170, vi x1, vi x2] s (MQx rPP C 3 (rG 10 [x1, x2] t))
def rT140 (K d C : Nat) : Prop := ∀ (s : rS) (t : tab) (x1 : Int), EE rPP C t s → i32 x1 → pcr K d 140 [.ref 170, vi x1] s (MQx rPP C 1 (rG 11 [x1] t))
def rT147 (K d C : Nat) : Prop := ∀ (s : rS) (t : tab) (x1 : Int) (x2 : Int), EE rPP C t s → i32 x1 → i32 x2 → pcr K d 147 [.ref 170, vi x1, vi x2] s (MQx rPP C 0 (rG 12 [x1, x2] t))
def rT142 (K d C : Nat) : Prop := ∀ (s : rS) (t : tab) , EE rPP C t s → pcr K d 142 [.ref 170] s (MQx rPP C 0 (rG 13 [] t))
def rT138 (K d C : Nat) : Prop := ∀ (s : rS) (t : tab) , EE rPP C t s → pcr K d 138 [.ref 170] s (MQx rPP C 0 (rG 14 [] t))
def rT135 (K d C : Nat) : Prop := ∀ (s : rS) (t : tab) , EE rPP C t s → pcr K d 135 [.ref 170] s (MQx rPP C 0 (rG 15 [] t))
def rT130 (K d C : Nat) : Prop := ∀ (s : rS) (t : tab) (x1 : Int) (x2 : Int), EE rPP C t s → i32 x1 → i32 x2 → pcr K d 130 [.ref 170, vi x1, vi x2] s (MQx rPP C 3 (rG 16 [x1, x2] t))
def rT137 (K d C : Nat) : Prop := ∀ (s : rS) (t : tab) (x1 : Int), EE rPP C t s → i32 x1 → pcr K d 137 [.ref 170, vi x1] s (MQx rPP C 3 (rG 17 [x1] t))
def rT158 (K d C : Nat) : Prop := ∀ (s : rS) (t : tab) (x1 : Int) (x2 : Int), EE rPP C t s → i32 x1 → i32 x2 → pcr K d 158 [.ref 170, vi x1, vi x2] s (MQx rPP C 0 (rG 18 [x1, x2] t))
def rT148 (K d C : Nat) : Prop := ∀ (s : rS) (t : tab) (x1 : Int), EE rPP C t s → i32 x1 → pcr K d 148 [.ref 170, vi x1] s (MQx rPP C 3 (rG 19 [x1] t))
def rU148_0 (N K d C : Nat) : Prop := ∀ (s : rS) (t : tab) (y2 : Int) (y1 : Int), EE rPP C t s → i32 y2 → i32 y1 → pr N K d tb_M148 5 [(2, vi y2), (0, .ref 170), (1, vi y1)] [] s (MQx rPP C 3 (rG 51 [y1, y2] t))
def rA148 (N K d C : Nat) : Prop := rU148_0 N K d C
def rT151 (K d C : Nat) : Prop := ∀ (s : rS) (t : tab) , EE rPP C t s → pcr K d 151 [.ref 170] s (MQx rPP C 1 (rG 20 [] t))
def rT152 (K d C : Nat) : Prop := ∀ (s : rS) (t : tab) , EE rPP C t s → pcr K d 152 [.ref 170] s (MQx rPP C 1 (rG 21 [] t))
def rT144 (K d C : Nat) : Prop := ∀ (s : rS) (t : tab) (x1 : Int) (x2 : Int), EE rPP C t s → i32 x1 → i32 x2 → pcr K d 144 [.ref 170, vi x1, vi x2] s (MQx rPP C 3 (rG 22 [x1, x2] t))
def rU144_0 (N K d C : Nat) : Prop := ∀ (s : rS) (t : tab) (y1 : Int) (y2 : Int), EE rPP C t s → i32 y1 → i32 y2 → pr N K d tb_M144 25 [(0, .ref 170), (1, vi y1), (2, vi y2)] [] s (MQx rPP C 3 (rG 52 [y1, y2] t))
def rU144_1 (N K d C : Nat) : Prop := ∀ (s : rS) (t : tab) (y3 : Int) (y1 : Int) (y2 : Int), EE rPP C t s → i32 y3 → i32 y1 → i32 y2 → pr N K d tb_M144 25 [(3, vi y3), (0, .ref 170), (1, vi y1), (2, vi y2)] [] s (MQx rPP C 3 (rG 52 [y1, y2] t))
def rA144 (N K d C : Nat) : Prop := rU144_0 N K d C ∧ rU144_1 N K d C
def rT145 (K d C : Nat) : Prop := ∀ (s : rS) (t : tab) (x1 : Int), EE rPP C t s → i32 x1 → pcr K d 145 [.ref 170, vi x1] s (MQx rPP C 3 (rG 23 [x1] t))
def rT146 (K d C : Nat) : Prop := ∀ (s : rS) (t : tab) (x1 : Int), EE rPP C t s → i32 x1 → pcr K d 146 [.ref 170, vi x1] s (MQx rPP C 3 (rG 24 [x1] t))
def rT149 (K d C : Nat) : Prop := ∀ (s : rS) (t : tab) (x1 : Int) (x2 : Int) (x3 : Int), EE rPP C t s → i32 x1 → i32 x2 → i32 x3 → pcr K d 149 [.ref 170, vi x1, vi x2, vi x3] s (MQx rPP C 3 (rG 25 [x1, x3] t))
def rU149_0 (N K d C : Nat) : Prop := ∀ (s : rS) (t : tab) (y4 : Int) (y1 : Int) (y2 : Int) (y3 : Int), EE rPP C t s → i32 y4 → i32 y1 → i32 y2 → i32 y3 → pr N K d tb_M149 6 [(4, vi y4), (0, .ref 170), (1, vi y1), (2, vi y2), (3, vi y3)] [] s (MQx rPP C 3 (rG 53 [y1, y3, y4] t))
def rA149 (N K d C : Nat) : Prop := rU149_0 N K d C
def rT150 (K d C : Nat) : Prop := ∀ (s : rS) (t : tab) (x1 : Int) (x2 : Int) (x3 : Int) (x4 : Int), EE rPP C t s → i32 x1 → i32 x2 → i32 x3 → 0 ≤ x4 ∧ x4 ≤ 1 → pcr K d 150 [.ref 170, vi x1, vi x2, vi x3, vi x4] s (MQx rPP C 3 (rG 26 [x1, x3, x4] t))
def rU150_0 (N K d C : Nat) : Prop := ∀ (s : rS) (t : tab) (y6 : Int) (y5 : Int) (y1 : Int) (y2 : Int) (y3 : Int) (y4 : Int), EE rPP C t s → i32 y6 → i32 y5 → i32 y1 → i32 y2 → i32 y3 → i32 y4 → pr N K d tb_M150 31 [(6, vi y6), (5, vi y5), (0, .ref 170), (1, vi y1), (2, vi y2), (3, vi y3), (4, vi y4)] [] s (MQx rPP C 3 (rG 54 [y3, y4, y5, y6] t))
def rU150_1 (N K d C : Nat) : Prop := ∀ (s : rS) (t : tab) (y7 : Int) (y6 : Int) (y5 : Int) (y1 : Int) (y2 : Int) (y3 : Int) (y4 : Int), EE rPP C t s → i32 y7 → i32 y6 → i32 y5 → i32 y1 → i32 y2 → i32 y3 → i32 y4 → pr N K d tb_M150 128 [(7, vi y7), (6, vi y6), (5, vi y5), (0, .ref 170), (1, vi y1), (2, vi y2), (3, vi y3), (4, vi y4)] [] s (MQx rPP C 3 (rG 55 [y4, y5, y7] t))
def rA150 (N K d C : Nat) : Prop := rU150_0 N K d C ∧ rU150_1 N K d C
def rT157 (K d C : Nat) : Prop := ∀ (s : rS) (t : tab) (x1 : Int) (x2 : Int) (x3 : Int), EE rPP C t s → i32 x1 → i32 x2 → i32 x3 → pcr K d 157 [.ref 170, vi x1, vi x2, vi x3] s (MQx rPP C 3 (rG 27 [x1, x3] t))
def rT139 (K d C : Nat) : Prop := ∀ (s : rS) (t : tab) (x1 : Int), EE rPP C t s → i32 x1 → pcr K d 139 [.ref 170, vi x1] s (MQx rPP C 3 (rG 28 [x1] t))
def rU139_0 (N K d C : Nat) : Prop := ∀ (s : rS) (t : tab) (y4 : Int) (y3 : Int) (y2 : Int) (y1 : Int), EE rPP C t s → i32 y4 → i32 y3 → i32 y2 → i32 y1 → pr N K d tb_M139 26 [(4, vi y4), (3, vi y3), (2, vi y2), (0, .ref 170), (1, vi y1)] [] s (MQx rPP C 3 (rG 56 [y1, y2, y3, y4] t))
def rU139_1 (N K d C : Nat) : Prop := ∀ (s : rS) (t : tab) (y4 : Int) (y3 : Int) (y2 : Int) (y1 : Int), EE rPP C t s → i32 y4 → i32 y3 → i32 y2 → i32 y1 → pr N K d tb_M139 58 [(4, vi y4), (3, vi y3), (2, vi y2), (0, .ref 170), (1, vi y1)] [] s (MQx rPP C 3 (rG 57 [y1, y2, y3, y4] t))
def rA139 (N K d C : Nat) : Prop := rU139_0 N K d C ∧ rU139_1 N K d C
def rT141 (K d C : Nat) : Prop := ∀ (s : rS) (t : tab) (x1 : Int), EE rPP C t s → i32 x1 → pcr K d 141 [.ref 170, vi x1] s (MQx rPP C 3 (rG 29 [x1] t))
def rT143 (K d C : Nat) : Prop := ∀ (s : rS) (t : tab) (x1 : Int), EE rPP C t s → i32 x1 → pcr K d 143 [.ref 170, vi x1] s (MQx rPP C 3 (rG 30 [x1] t))
def rT153 (K d C : Nat) : Prop := ∀ (s : rS) (t : tab) (x1 : Int), EE rPP C t s → i32 x1 → pcr K d 153 [.ref 170, vi x1] s (MQx rPP C 3 (rG 31 [x1] t))
def rT154 (K d C : Nat) : Prop := ∀ (s : rS) (t : tab) (x1 : Int), EE rPP C t s → i32 x1 → pcr K d 154 [.ref 170, vi x1] s (MQx rPP C 3 (rG 32 [x1] t))
def rT155 (K d C : Nat) : Prop := ∀ (s : rS) (t : tab) (x1 : Int), EE rPP C t s → i32 x1 → pcr K d 155 [.ref 170, vi x1] s (MQx rPP C 3 (rG 33 [x1] t))
def rU155_0 (N K d C : Nat) : Prop := ∀ (s : rS) (t : tab) (y6 : Int) (y5 : Int) (y4 : Int) (y3 : Int) (y2 : Int) (y1 : Int), EE rPP C t s → i32 y6 → i32 y5 → i32 y4 → i32 y3 → i32 y2 → i32 y1 → pr N K d tb_M155 53 [(6, vi y6), (5, vi y5), (4, vi y4), (3, vi y3), (2, vi y2), (0, .ref 170), (1, vi y1)] [] s (MQx rPP C 3 (rG 58 [y1, y2, y3, y4, y5, y6] t))
def rU155_1 (N K d C : Nat) : Prop := ∀ (s : rS) (t : tab) (y27 : Int) (y25 : Int) (y23 : Int) (y21 : Int) (y19 : Int) (y17 : Int) (y15 : Int) (y13 : Int) (y11 : Int) (y9 : Int) (y7 : Int) (y6 : Int) (y5 : Int) (y4 : Int) (y3 : Int) (y2 : Int) (y1 : Int), EE rPP C t s → i32 y27 → i64 y25 → i64 y23 → i64 y21 → i64 y19 → i64 y17 → i64 y15 → i64 y13 → i64 y11 → i64 y9 → i64 y7 → i32 y6 → i32 y5 → i32 y4 → i32 y3 → i32 y2 → i32 y1 → pr N K d tb_M155 134 [(27, vi y27), (25, vl y25), (23, vl y23), (21, vl y21), (19, vl y19), (17, vl y17), (15, vl y15), (13, vl y13), (11, vl y11), (9, vl y9), (7, vl y7), (6, vi y6), (5, vi y5), (4, vi y4), (3, vi y3), (2, vi y2), (0, .ref 170), (1, vi y1)] [] s (MQx rPP C 3 (rG 59 [y1, y2, y3, y4, y5, y6, y7, y9, y11, y13, y15, y17, y19, y21, y23, y25, y27] t))
def rU155_2 (N K d C : Nat) : Prop := ∀ (s : rS) (t : tab) (y27 : Int) (y25 : Int) (y23 : Int) (y21 : Int) (y19 : Int) (y17 : Int) (y15 : Int) (y13 : Int) (y11 : Int) (y9 : Int) (y7 : Int) (y6 : Int) (y5 : Int) (y4 : Int) (y3 : Int) (y2 : Int) (y1 : Int) (ys0 : Int) (ys1 : Int), EE rPP C t s → i32 y27 → i64 y25 → i64 y23 → i64 y21 → i64 y19 → i64 y17 → i64 y15 → i64 y13 → i64 y11 → i64 y9 → i64 y7 → i32 y6 → i32 y5 → i32 y4 → i32 y3 → i32 y2 → i32 y1 → i32 ys0 → i32 ys1 → pr N K d tb_M155 273 [(27, vi y27), (25, vl y25), (23, vl y23), (21, vl y21), (19, vl y19), (17, vl y17), (15, vl y15), (13, vl y13), (11, vl y11), (9, vl y9), (7, vl y7), (6, vi y6), (5, vi y5), (4, vi y4), (3, vi y3), (2, vi y2), (0, .ref 170), (1, vi y1)] [vi ys0, vi ys1] s (MQx rPP C 3 (rG 60 [y1, y2, y3, y4, y5, y6, y7, y9, y11, y13, y15, y17, y19, y21, y23, y25, ys0, ys1] t))
def rU155_3 (N K d C : Nat) : Prop := ∀ (s : rS) (t : tab) (y5 : Int) (y25 : Int) (y23 : Int) (y21 : Int) (y19 : Int) (y17 : Int) (y27 : Int) (y15 : Int) (y13 : Int) (y11 : Int) (y9 : Int) (y7 : Int) (y6 : Int) (y4 : Int) (y3 : Int) (y2 : Int) (y1 : Int), EE rPP C t s → i32 y5 → i64 y25 → i64 y23 → i64 y21 → i64 y19 → i64 y17 → i32 y27 → i64 y15 → i64 y13 → i64 y11 → i64 y9 → i64 y7 → i32 y6 → i32 y4 → i32 y3 → i32 y2 → i32 y1 → pr N K d tb_M155 134 [(5, vi y5), (25, vl y25), (23, vl y23), (21, vl y21), (19, vl y19), (17, vl y17), (27, vi y27), (15, vl y15), (13, vl y13), (11, vl y11), (9, vl y9), (7, vl y7), (6, vi y6), (4, vi y4), (3, vi y3), (2, vi y2), (0, .ref 170), (1, vi y1)] [] s (MQx rPP C 3 (rG 59 [y1, y2, y3, y4, y5, y6, y7, y9, y11, y13, y15, y17, y19, y21, y23, y25, y27] t))
def rU155_4 (N K d C : Nat) : Prop := ∀ (s : rS) (t : tab) (y5 : Int) (y25 : Int) (y23 : Int) (y21 : Int) (y19 : Int) (y17 : Int) (y27 : Int) (y15 : Int) (y13 : Int) (y11 : Int) (y9 : Int) (y7 : Int) (y6 : Int) (y4 : Int) (y3 : Int) (y2 : Int) (y1 : Int) (ys0 : Int) (ys1 : Int), EE rPP C t s → i32 y5 → i64 y25 → i64 y23 → i64 y21 → i64 y19 → i64 y17 → i32 y27 → i64 y15 → i64 y13 → i64 y11 → i64 y9 → i64 y7 → i32 y6 → i32 y4 → i32 y3 → i32 y2 → i32 y1 → i32 ys0 → i32 ys1 → pr N K d tb_M155 273 [(5, vi y5), (25, vl y25), (23, vl y23), (21, vl y21), (19, vl y19), (17, vl y17), (27, vi y27), (15, vl y15), (13, vl y13), (11, vl y11), (9, vl y9), (7, vl y7), (6, vi y6), (4, vi y4), (3, vi y3), (2, vi y2), (0, .ref 170), (1, vi y1)] [vi ys0, vi ys1] s (MQx rPP C 3 (rG 60 [y1, y2, y3, y4, y5, y6, y7, y9, y11, y13, y15, y17, y19, y21, y23, y25, ys0, ys1] t))
def rA155 (N K d C : Nat) : Prop := rU155_0 N K d C ∧ rU155_1 N K d C ∧ rU155_2 N K d C ∧ rU155_3 N K d C ∧ rU155_4 N K d C
def rT156 (K d C : Nat) : Prop := ∀ (s : rS) (t : tab) (x1 : Int), EE rPP C t s → i32 x1 → pcr K d 156 [.ref 170, vi x1] s (MQx rPP C 3 (rG 34 [x1] t))
def rU156_0 (N K d C : Nat) : Prop := ∀ (s : rS) (t : tab) (y5 : Int) (y4 : Int) (y3 : Int) (y2 : Int) (y1 : Int) (ys0 : Int), EE rPP C t s → i32 y5 → i32 y4 → i32 y3 → i32 y2 → i32 y1 → i32 ys0 → pr N K d tb_M156 164 [(5, vi y5), (4, vi y4), (3, vi y3), (2, vi y2), (0, .ref 170), (1, vi y1)] [vi ys0] s (MQx rPP C 3 (rG 61 [y1, y2, y3, y4, y5, ys0] t))
def rA156 (N K d C : Nat) : Prop := rU156_0 N K d C
def rT159 (K d C : Nat) : Prop := ∀ (s : rS) (t : tab) , EE rPP C t s → pcr K d 159 [.ref 170] s (MQx rPP C 3 (rG 35 [] t))
def rU159_0 (N K d C : Nat) : Prop := ∀ (s : rS) (t : tab) , EE rPP C t s → pr N K d tb_M159 12 [(0, .ref 170)] [] s (MQx rPP C 3 (rG 62 [] t))
def rU159_1 (N K d C : Nat) : Prop := ∀ (s : rS) (t : tab) , EE rPP C t s → pr N K d tb_M159 44 [(0, .ref 170)] [] s (MQx rPP C 3 (rG 63 [] t))
def rA159 (N K d C : Nat) : Prop := rU159_0 N K d C ∧ rU159_1 N K d C
def rT129 (K d C : Nat) : Prop := ∀ (s : rS) (t : tab) (x1 : Int), EE rPP C t s → 0 ≤ x1 ∧ x1 ≤ 1 → pcr K d 129 [.ref 170, vi x1] s (MQx rPP C 3 (rG 36 [x1] t))
def rU129_0 (N K d C : Nat) : Prop := ∀ (s : rS) (t : tab) (y4 : Int) (y3 : Int) (y2 : Int) (y1 : Int), EE rPP C t s → i32 y4 → i32 y3 → i32 y2 → i32 y1 → pr N K d tb_M129 131 [(4, vi y4), (3, vi y3), (2, vi y2), (0, .ref 170), (1, vi y1)] [] s (MQx rPP C 3 (rG 64 [y1, y2, y3, y4] t))
def rU129_1 (N K d C : Nat) : Prop := ∀ (s : rS) (t : tab) (y5 : Int) (y4 : Int) (y3 : Int) (y2 : Int) (y1 : Int), EE rPP C t s → i32 y5 → i32 y4 → i32 y3 → i32 y2 → i32 y1 → pr N K d tb_M129 277 [(5, vi y5), (4, vi y4), (3, vi y3), (2, vi y2), (0, .ref 170), (1, vi y1)] [] s (MQx rPP C 3 (rG 65 [y2, y3, y4, y5] t))
def rA129 (N K d C : Nat) : Prop := rU129_0 N K d C ∧ rU129_1 N K d C
def rT128 (K d C : Nat) : Prop := ∀ (s : rS) (t : tab) , EE rPP C t s → pcr K d 128 [.ref 170] s (MQx rPP C 3 (rG 37 [] t))
def rT122 (K d C : Nat) : Prop := ∀ (s : rS) (t : tab), EE rPP C t (up2 s.1 170 19 (C : Int), s.2) → s.1 170 18 = (C : Int) → pcr K d 122 [.ref 170] s (MQx rPP C 3 (rG 38 [] t))
def rU122_0 (N K d C : Nat) : Prop := ∀ (s : rS) (t : tab) , EE rPP C t s → pr N K d tb_M122 142 [(0, .ref 170)] [] s (MQx rPP C 3 (rG 66 [] t))
def rU122_1 (N K d C : Nat) : Prop := ∀ (s : rS) (t : tab) (y1 : Int), EE rPP C t s → i32 y1 → pr N K d tb_M122 233 [(1, vi y1), (0, .ref 170)] [] s (MQx rPP C 3 (rG 67 [y1] t))
def rA122 (N K d C : Nat) : Prop := rU122_0 N K d C ∧ rU122_1 N K d C
def rT76 (K d C : Nat) : Prop := ∀ (s : rS) (t : tab) (x0 : Int), EE rPP C t s → i32 x0 → pcr K d 76 [vi x0] s (MQx rPP C 1 (rG 39 [x0] t))
