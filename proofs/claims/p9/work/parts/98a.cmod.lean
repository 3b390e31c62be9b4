/-! Models of our own objects' methods. -/
/-- at -/
def cM26 (rc : MRq) (x1 : Int) (t : tab) : RO :=
  if x1 < 0 then
    (some (some ((-1), t)))
  else
    (if t 97 1 ≤ x1 then
      (some (some ((-1), t)))
    else
      (some (some (ian (t 98 x1.toNat) 255, t))))
theorem cM26_k {x1 : Int} {t : tab} : Kn (fun rc => cM26 rc x1 t) := by
  unfold cM26
  exact (Kn_if Kn_c (Kn_if Kn_c Kn_c))
/-- isLetter -/
def cM27 (rc : MRq) (x0 : Int) (t : tab) : RO :=
  if x0 < 97 then
    (some (some (0, t)))
  else
    (if 122 < x0 then
      (some (some (0, t)))
    else
      (some (some (1, t))))
theorem cM27_k {x0 : Int} {t : tab} : Kn (fun rc => cM27 rc x0 t) := by
  unfold cM27
  exact (Kn_if Kn_c (Kn_if Kn_c Kn_c))
/-- isDigit -/
def cM30 (rc : MRq) (x0 : Int) (t : tab) : RO :=
  if x0 < 48 then
    (some (some (0, t)))
  else
    (if 57 < x0 then
      (some (some (0, t)))
    else
      (some (some (1, t))))
theorem cM30_k {x0 : Int} {t : tab} : Kn (fun rc => cM30 rc x0 t) := by
  unfold cM30
  exact (Kn_if Kn_c (Kn_if Kn_c Kn_c))
/-- inName -/
def cM29 (rc : MRq) (x0 : Int) (t : tab) : RO :=
  if ltz x0 ≠ 0 then
    (some (some (1, t)))
  else
    (if dgz x0 = 0 then
      (some (some (0, t)))
    else
      (some (some (1, t))))
theorem cM29_k {x0 : Int} {t : tab} : Kn (fun rc => cM29 rc x0 t) := by
  unfold cM29
  exact (Kn_if Kn_c (Kn_if Kn_c Kn_c))
/-- kind -/
def cM34 (rc : MRq) (t : tab) : RO :=
  if t 137 5 < 0 then
    (some (some (3, t)))
  else
    (if 2000 < t 137 5 then
      (some (some (3, t)))
    else
      (some (some (t 139 ((t 137 5).toNat), t))))
theorem cM34_k {t : tab} : Kn (fun rc => cM34 rc t) := by
  unfold cM34
  exact (Kn_if Kn_c (Kn_if Kn_c Kn_c))
/-- place -/
def cM40 (rc : MRq) (t : tab) : RO :=
  if t 137 5 < 0 then
    (some (some (0, t)))
  else
    (if 2000 < t 137 5 then
      (some (some (0, t)))
    else
      (some (some (t 140 ((t 137 5).toNat), t))))
theorem cM40_k {t : tab} : Kn (fun rc => cM40 rc t) := by
  unfold cM40
  exact (Kn_if Kn_c (Kn_if Kn_c Kn_c))
/-- value -/
def cM38 (rc : MRq) (t : tab) : RO :=
  if t 137 5 < 0 then
    (some (some (0, t)))
  else
    (if 2000 < t 137 5 then
      (some (some (0, t)))
    else
      (some (some (t 141 ((t 137 5).toNat), t))))
theorem cM38_k {t : tab} : Kn (fun rc => cM38 rc t) := by
  unfold cM38
  exact (Kn_if Kn_c (Kn_if Kn_c Kn_c))
/-- step -/
def cM35 (rc : MRq) (t : tab) : RO :=
  if t 137 5 < 0 then
    (some (some (0, t)))
  else
    (if 2000 ≤ t 137 5 then
      (some (some (0, t)))
    else
      (if t 139 ((t 137 5).toNat) = 3 then
        (some (some (0, t)))
      else
        (if t 139 ((t 137 5).toNat) = 4 then
          (some (some (0, t)))
        else
          (some (some (0, up2 t 137 5 (t 137 5 + 1)))))))
theorem cM35_k {t : tab} : Kn (fun rc => cM35 rc t) := by
  unfold cM35
  exact (Kn_if Kn_c (Kn_if Kn_c (Kn_if Kn_c (Kn_if Kn_c Kn_c))))
/-- isSign -/
def cM33 (rc : MRq) (x0 : Int) (t : tab) : RO :=
  if x0 = 33 then
    (some (some (1, t)))
  else
    (if x0 = 34 then
      (some (some (0, t)))
    else
      (if x0 = 35 then
        (some (some (0, t)))
      else
        (if x0 = 36 then
          (some (some (0, t)))
        else
          (if x0 = 37 then
            (some (some (1, t)))
          else
            (if x0 = 38 then
              (some (some (1, t)))
            else
              (if x0 = 39 then
                (some (some (0, t)))
              else
                (if x0 = 40 then
                  (some (some (1, t)))
                else
                  (if x0 = 41 then
                    (some (some (1, t)))
                  else
                    (if x0 = 42 then
                      (some (some (1, t)))
                    else
                      (if x0 = 43 then
                        (some (some (1, t)))
                      else
                        (if x0 = 44 then
                          (some (some (1, t)))
                        else
                          (if x0 = 45 then
                            (some (some (1, t)))
                          else
                            (if x0 = 46 then
                              (some (some (0, t)))
                            else
                              (if x0 = 47 then
                                (some (some (1, t)))
                              else
                                (if x0 = 48 then
                                  (some (some (0, t)))
                                else
                                  (if x0 = 49 then
                                    (some (some (0, t)))
                                  else
                                    (if x0 = 50 then
                                      (some (some (0, t)))
                                    else
                                      (if x0 = 51 then
                                        (some (some (0, t)))
                                      else
                                        (if x0 = 52 then
                                          (some (some (0, t)))
                                        else
                                          (if x0 = 53 then
                                            (some (some (0, t)))
                                          else
                                            (if x0 = 54 then
                                              (some (some (0, t)))
                                            else
                                              (if x0 = 55 then
                                                (some (some (0, t)))
                                              else
                                                (if x0 = 56 then
                                                  (some (some (0, t)))
                                                else
                                                  (if x0 = 57 then
                                                    (some (some (0, t)))
                                                  else
                                                    (if x0 = 58 then
                                                      (some (some (1, t)))
                                                    else
                                                      (if x0 = 59 then
                                                        (some (some (1, t)))
                                                      else
                                                        (if x0 = 60 then
                                                          (some (some (1, t)))
                                                        else
                                                          (if x0 = 61 then
                                                            (some (some (1, t)))
                                                          else
                                                            (if x0 = 62 then
                                                              (some (some (1, t)))
                                                            else
                                                              (if x0 = 63 then
                                                                (some (some (1, t)))
                                                              else
                                                                (if x0 = 64 then
                                                                  (some (some (0, t)))
                                                                else
                                                                  (if x0 = 65 then
                                                                    (some (some (0, t)))
                                                                  else
                                                                    (if x0 = 66 then
                                                                      (some (some (0, t)))
                                                                    else
                                                                      (if x0 = 67 then
                                                                        (some (some (0, t)))
                                                                      else
                                                                        (if x0 = 68 then
                                                                          (some (some (0, t)))
                                                                        else
                                                                          (if x0 = 69 then
                                                                            (some (some (0, t)))
                                                                          else
                                                                            (if x0 = 70 then
                                                                              (some (some (0, t)))
                                                                            else
                                                                              (if x0 = 71 then
                                                                                (some (some (0, t)))
                                                                              else
                                                                                (if x0 = 72 then
                                                                                  (some (some (0, t)))
                                                                                else
                                                                                  (if x0 = 73 then
                                                                                    (some (some (0, t)))
                                                                                  else
                                                                                    (if x0 = 74 then
                                                                                      (some (some (0, t)))
                                                                                    else
                                                                                      (if x0 = 75 then
                                                                                        (some (some (0, t)))
                                                                                      else
                                                                                        (if x0 = 76 then
                                                                                          (some (some (0, t)))
                                                                                        else
                                                                                          (if x0 = 77 then
                                                                                            (some (some (0, t)))
                                                                                          else
                                                                                            (if x0 = 78 then
                                                                                              (some (some (0, t)))
                                                                                            else
                                                                                              (if x0 = 79 then
                                                                                                (some (some (0, t)))
                                                                                              else
                                                                                                (if x0 = 80 then
                                                                                                  (some (some (0, t)))
                                                                                                else
                                                                                                  (if x0 = 81 then
                                                                                                    (some (some (0, t)))
                                                                                                  else
                                                                                                    (if x0 = 82 then
                                                                                                      (some (some (0, t)))
                                                                                                    else
                                                                                                      (if x0 = 83 then
                                                                                                        (some (some (0, t)))
                                                                                                      else
                                                                                                        (if x0 = 84 then
                                                                                                          (some (some (0, t)))
                                                                                                        else
                                                                                                          (if x0 = 85 then
                                                                                                            (some (some (0, t)))
                                                                                                          else
                                                                                                            (if x0 = 86 then
                                                                                                              (some (some (0, t)))
                                                                                                            else
                                                                                                              (if x0 = 87 then
                                                                                                                (some (some (0, t)))
                                                                                                              else
                                                                                                                (if x0 = 88 then
                                                                                                                  (some (some (0, t)))
                                                                                                                else
                                                                                                                  (if x0 = 89 then
                                                                                                                    (some (some (0, t)))
                                                                                                                  else
                                                                                                                    (if x0 = 90 then
                                                                                                                      (some (some (0, t)))
                                                                                                                    else
                                                                                                                      (if x0 = 91 then
                                                                                                                        (some (some (1, t)))
                                                                                                                      else
                                                                                                                        (if x0 = 92 then
                                                                                                                          (some (some (0, t)))
                                                                                                                        else
                                                                                                                          (if x0 = 93 then
                                                                                                                            (some (some (1, t)))
                                                                                                                          else
                                                                                                                            (if x0 = 94 then
                                                                                                                              (some (some (1, t)))
                                                                                                                            else
                                                                                                                              (if x0 = 95 then
                                                                                                                                (some (some (0, t)))
                                                                                                                              else
                                                                                                                                (if x0 = 96 then
                                                                                                                                  (some (some (0, t)))
                                                                                                                                else
                                                                                                                                  (if x0 = 97 then
                                                                                                                                    (some (some (0, t)))
                                                                                                                                  else
                                                                                                                                    (if x0 = 98 then
                                                                                                                                      (some (some (0, t)))
                                                                                                                                    else
                                                                                                                                      (if x0 = 99 then
                                                                                                                                        (some (some (0, t)))
                                                                                                                                      else
                                                                                                                                        (if x0 = 100 then
                                                                                                                                          (some (some (0, t)))
                                                                                                                                        else
                                                                                                                                          (if x0 = 101 then
                                                                                                                                            (some (some (0, t)))
                                                                                                                                          else
                                                                                                                                            (if x0 = 102 then
                                                                                                                                              (some (some (0, t)))
                                                                                                                                            else
                                                                                                                                              (if x0 = 103 then
                                                                                                                                                (some (some (0, t)))
                                                                                                                                              else
                                                                                                                                                (if x0 = 104 then
                                                                                                                                                  (some (some (0, t)))
                                                                                                                                                else
                                                                                                                                                  (if x0 = 105 then
                                                                                                                                                    (some (some (0, t)))
                                                                                                                                                  else
                                                                                                                                                    (if x0 = 106 then
                                                                                                                                                      (some (some (0, t)))
                                                                                                                                                    else
                                                                                                                                                      (if x0 = 107 then
                                                                                                                                                        (some (some (0, t)))
                                                                                                                                                      else
                                                                                                                                                        (if x0 = 108 then
                                                                                                                                                          (some (some (0, t)))
                                                                                                                                                        else
                                                                                                                                                          (if x0 = 109 then
                                                                                                                                                            (some (some (0, t)))
                                                                                                                                                          else
                                                                                                                                                            (if x0 = 110 then
                                                                                                                                                              (some (some (0, t)))
                                                                                                                                                            else
                                                                                                                                                              (if x0 = 111 then
                                                                                                                                                                (some (some (0, t)))
                                                                                                                                                              else
                                                                                                                                                                (if x0 = 112 then
                                                                                                                                                                  (some (some (0, t)))
                                                                                                                                                                else
                                                                                                                                                                  (if x0 = 113 then
                                                                                                                                                                    (some (some (0, t)))
                                                                                                                                                                  else
                                                                                                                                                                    (if x0 = 114 then
                                                                                                                                                                      (some (some (0, t)))
                                                                                                                                                                    else
                                                                                                                                                                      (if x0 = 115 then
                                                                                                                                                                        (some (some (0, t)))
                                                                                                                                                                      else
                                                                                                                                                                        (if x0 = 116 then
                                                                                                                                                                          (some (some (0, t)))
                                                                                                                                                                        else
                                                                                                                                                                          (if x0 = 117 then
                                                                                                                                                                            (some (some (0, t)))
                                                                                                                                                                          else
                                                                                                                                                                            (if x0 = 118 then
                                                                                                                                                                              (some (some (0, t)))
                                                                                                                                                                            else
                                                                                                                                                                              (if x0 = 119 then
                                                                                                                                                                                (some (some (0, t)))
                                                                                                                                                                              else
                                                                                                                                                                                (if x0 = 120 then
                                                                                                                                                                                  (some (some (0, t)))
                                                                                                                                                                                else
                                                                                                                                                                                  (if x0 = 121 then
                                                                                                                                                                                    (some (some (0, t)))
                                                                                                                                                                                  else
                                                                                                                                                                                    (if x0 = 122 then
                                                                                                                                                                                      (some (some (0, t)))
                                                                                                                                                                                    else
                                                                                                                                                                                      (if x0 = 123 then
                                                                                                                                                                                        (some (some (1, t)))
                                                                                                                                                                                      else
                                                                                                                                                                                        (if x0 = 124 then
                                                                                                                                                                                          (some (some (1, t)))
                                                                                                                                                                                        else
                                                                                                                                                                                          (if x0 = 125 then
                                                                                                                                                                                            (some (some (1, t)))
                                                                                                                                                                                          else
                                                                                                                                                                                            (if x0 = 126 then
                                                                                                                                                                                              (some (some (1, t)))
                                                                                                                                                                                            else
                                                                                                                                                                                              (some (some (0, t))))))))))))))))))))))))))))))))))))))))))))))))))))))))))))))))))))))))))))))))))))))))))))))))
theorem cM33_k {x0 : Int} {t : tab} : Kn (fun rc => cM33 rc x0 t) := by
  unfold cM33
  exact (Kn_if Kn_c (Kn_if Kn_c (Kn_if Kn_c (Kn_if Kn_c (Kn_if Kn_c (Kn_if Kn_c (Kn_if Kn_c (Kn_if Kn_c (Kn_if Kn_c (Kn_if Kn_c (Kn_if Kn_c (Kn_if Kn_c (Kn_if Kn_c (Kn_if Kn_c (Kn_if Kn_c (Kn_if Kn_c (Kn_if Kn_c (Kn_if Kn_c (Kn_if Kn_c (Kn_if Kn_c (Kn_if Kn_c (Kn_if Kn_c (Kn_if Kn_c (Kn_if Kn_c (Kn_if Kn_c (Kn_if Kn_c (Kn_if Kn_c (Kn_if Kn_c (Kn_if Kn_c (Kn_if Kn_c (Kn_if Kn_c (Kn_if Kn_c (Kn_if Kn_c (Kn_if Kn_c (Kn_if Kn_c (Kn_if Kn_c (Kn_if Kn_c (Kn_if Kn_c (Kn_if Kn_c (Kn_if Kn_c (Kn_if Kn_c (Kn_if Kn_c (Kn_if Kn_c (Kn_if Kn_c (Kn_if Kn_c (Kn_if Kn_c (Kn_if Kn_c (Kn_if Kn_c (Kn_if Kn_c (Kn_if Kn_c (Kn_if Kn_c (Kn_if Kn_c (Kn_if Kn_c (Kn_if Kn_c (Kn_if Kn_c (Kn_if Kn_c (Kn_if Kn_c (Kn_if Kn_c (Kn_if Kn_c (Kn_if Kn_c (Kn_if Kn_c (Kn_if Kn_c (Kn_if Kn_c (Kn_if Kn_c (Kn_if Kn_c (Kn_if Kn_c (Kn_if Kn_c (Kn_if Kn_c (Kn_if Kn_c (Kn_if Kn_c (Kn_if Kn_c (Kn_if Kn_c (Kn_if Kn_c (Kn_if Kn_c (Kn_if Kn_c (Kn_if Kn_c (Kn_if Kn_c (Kn_if Kn_c (Kn_if Kn_c (Kn_if Kn_c (Kn_if Kn_c (Kn_if Kn_c (Kn_if Kn_c (Kn_if Kn_c (Kn_if Kn_c (Kn_if Kn_c (Kn_if Kn_c (Kn_if Kn_c (Kn_if Kn_c (Kn_if Kn_c (Kn_if Kn_c (Kn_if Kn_c (Kn_if Kn_c (Kn_if Kn_c Kn_c))))))))))))))))))))))))))))))))))))))))))))))))))))))))))))))))))))))))))))))))))))))))))))))
/-- scanName -/
def cM28 (rc : MRq) (t : tab) : RO :=
  rc 58 [t 137 6, 0] t
theorem cM28_k {t : tab} : Kn (fun rc => cM28 rc t) := by
  unfold cM28
  exact Kn_r
/-- scanName, at 7 -/
def cM28_7 (rc : MRq) (y1 y2 : Int) (t : tab) : RO :=
  if t 97 1 ≤ t 137 6 then
    (if imi (t 137 6) y1 ≤ 8 then
      (rc 59 [y2, 0] (up2 t 141 ((t 137 5).toNat) y2))
    else
      (some (some (4, up2 t 141 ((t 137 5).toNat) y2))))
  else
    (if alz (atb t (t 137 6)) = 0 then
      (if imi (t 137 6) y1 ≤ 8 then
        (rc 59 [y2, 0] (up2 t 141 ((t 137 5).toNat) y2))
      else
        (some (some (4, up2 t 141 ((t 137 5).toNat) y2))))
    else
      (rc 58 [y1, lo (lsl y2 8) (atb t (t 137 6))] (up2 t 137 6 (ipl (t 137 6) 1))))
theorem cM28_7_k {y1 y2 : Int} {t : tab} : Kn (fun rc => cM28_7 rc y1 y2 t) := by
  unfold cM28_7
  exact (Kn_if (Kn_if Kn_r Kn_c) (Kn_if (Kn_if Kn_r Kn_c) Kn_r))
/-- scanName, at 95 -/
def cM28_95 (rc : MRq) (y2 y4 : Int) (t : tab) : RO :=
  if 15 ≤ y4 then
    (some (some (1, t)))
  else
    (if t 138 y4.toNat ≠ y2 then
      (rc 59 [y2, y4 + 1] t)
    else
      (some (some (ipl 300 y4, t))))
theorem cM28_95_k {y2 y4 : Int} {t : tab} : Kn (fun rc => cM28_95 rc y2 y4 t) := by
  unfold cM28_95
  exact (Kn_if Kn_c (Kn_if Kn_r Kn_c))
/-- scanNumber -/
def cM31 (rc : MRq) (t : tab) : RO :=
  rc 60 [0] t
theorem cM31_k {t : tab} : Kn (fun rc => cM31 rc t) := by
  unfold cM31
  exact Kn_r
/-- scanNumber, at 2 -/
def cM31_2 (rc : MRq) (y1 : Int) (t : tab) : RO :=
  if t 97 1 ≤ t 137 6 then
    (if y1 ≤ 65535 then
      (some (some (2, up2 t 141 ((t 137 5).toNat) y1)))
    else
      (some (some (4, up2 t 141 ((t 137 5).toNat) y1))))
  else
    (if dgz (atb t (t 137 6)) = 0 then
      (if y1 ≤ 65535 then
        (some (some (2, up2 t 141 ((t 137 5).toNat) y1)))
      else
        (some (some (4, up2 t 141 ((t 137 5).toNat) y1))))
    else
      (rc 60 [mnx (lmi (lpl (lmu y1 10) (atb t (t 137 6))) 48) 65536] (up2 t 137 6 (t 137 6 + 1))))
theorem cM31_2_k {y1 : Int} {t : tab} : Kn (fun rc => cM31_2 rc y1 t) := by
  unfold cM31_2
  exact (Kn_if (Kn_if Kn_c Kn_c) (Kn_if (Kn_if Kn_c Kn_c) Kn_r))
/-- scanSign -/
def cM32 (rc : MRq) (x1 : Int) (t : tab) : RO :=
  if atb t (ipl (t 137 6) 1) ≠ x1 then
    (if atb t (ipl (t 137 6) 1) ≠ 61 then
      (if sgz x1 = 0 then
        (some (some (4, up2 t 137 6 (ipl (t 137 6) 1))))
      else
        (some (some (x1, up2 t 137 6 (ipl (t 137 6) 1)))))
    else
      (if x1 = 33 then
        (some (some (ior (isl x1 8) (atb t (ipl (t 137 6) 1)), up2 t 137 6 (ipl (t 137 6) 2))))
      else
        (if x1 = 60 then
          (some (some (ior (isl x1 8) (atb t (ipl (t 137 6) 1)), up2 t 137 6 (ipl (t 137 6) 2))))
        else
          (if x1 ≠ 62 then
            (if sgz x1 = 0 then
              (some (some (4, up2 t 137 6 (ipl (t 137 6) 1))))
            else
              (some (some (x1, up2 t 137 6 (ipl (t 137 6) 1)))))
          else
            (some (some (ior (isl x1 8) (atb t (ipl (t 137 6) 1)), up2 t 137 6 (ipl (t 137 6) 2))))))))
  else
    (if x1 = 38 then
      (some (some (ior (isl x1 8) (atb t (ipl (t 137 6) 1)), up2 t 137 6 (ipl (t 137 6) 2))))
    else
      (if x1 = 124 then
        (some (some (ior (isl x1 8) (atb t (ipl (t 137 6) 1)), up2 t 137 6 (ipl (t 137 6) 2))))
      else
        (if x1 = 61 then
          (some (some (ior (isl x1 8) (atb t (ipl (t 137 6) 1)), up2 t 137 6 (ipl (t 137 6) 2))))
        else
          (if x1 = 60 then
            (some (some (ior (isl x1 8) (atb t (ipl (t 137 6) 1)), up2 t 137 6 (ipl (t 137 6) 2))))
          else
            (if x1 ≠ 62 then
              (if atb t (ipl (t 137 6) 1) ≠ 61 then
                (if sgz x1 = 0 then
                  (some (some (4, up2 t 137 6 (ipl (t 137 6) 1))))
                else
                  (some (some (x1, up2 t 137 6 (ipl (t 137 6) 1)))))
              else
                (if x1 = 33 then
                  (some (some (ior (isl x1 8) (atb t (ipl (t 137 6) 1)), up2 t 137 6 (ipl (t 137 6) 2))))
                else
                  (if sgz x1 = 0 then
                    (some (some (4, up2 t 137 6 (ipl (t 137 6) 1))))
                  else
                    (some (some (x1, up2 t 137 6 (ipl (t 137 6) 1)))))))
            else
              (some (some (ior (isl x1 8) (atb t (ipl (t 137 6) 1)), up2 t 137 6 (ipl (t 137 6) 2)))))))))
theorem cM32_k {x1 : Int} {t : tab} : Kn (fun rc => cM32 rc x1 t) := by
  unfold cM32
  exact (Kn_if (Kn_if (Kn_if Kn_c Kn_c) (Kn_if Kn_c (Kn_if Kn_c (Kn_if (Kn_if Kn_c Kn_c) Kn_c)))) (Kn_if Kn_c (Kn_if Kn_c (Kn_if Kn_c (Kn_if Kn_c (Kn_if (Kn_if (Kn_if Kn_c Kn_c) (Kn_if Kn_c (Kn_if Kn_c Kn_c))) Kn_c))))))
/-- scanToken -/
def cM25 (rc : MRq) (t : tab) : RO :=
  rc 61 [] t
theorem cM25_k {t : tab} : Kn (fun rc => cM25 rc t) := by
  unfold cM25
  exact Kn_r
/-- scanToken, at 99999 -/
def cM25_99999 (rc : MRq) (t : tab) : RO :=
  if t 97 1 ≤ t 137 6 then
    (if 0 ≤ atb (up2 t 140 ((t 137 5).toNat) (t 137 6)) (t 137 6) then
      (if ltz (atb (up2 t 140 ((t 137 5).toNat) (t 137 6)) (t 137 6)) = 0 then
        (if dgz (atb (up2 t 140 ((t 137 5).toNat) (t 137 6)) (t 137 6)) = 0 then
          (bo (rc 11 [atb (up2 t 140 ((t 137 5).toNat) (t 137 6)) (t 137 6)] (up2 t 140 ((t 137 5).toNat) (t 137 6))) fun z16 t16 =>
          some (some (z16, t16)))
        else
          (bo (rc 10 [] (up2 t 140 ((t 137 5).toNat) (t 137 6))) fun z17 t17 =>
          some (some (z17, t17))))
      else
        (bo (rc 9 [] (up2 t 140 ((t 137 5).toNat) (t 137 6))) fun z18 t18 =>
        some (some (z18, t18))))
    else
      (some (some (3, up2 t 140 ((t 137 5).toNat) (t 137 6)))))
  else
    (if atb t (t 137 6) = 32 then
      (rc 61 [] (up2 t 137 6 (t 137 6 + 1)))
    else
      (if atb t (t 137 6) ≠ 10 then
        (if 0 ≤ atb (up2 t 140 ((t 137 5).toNat) (t 137 6)) (t 137 6) then
          (if ltz (atb (up2 t 140 ((t 137 5).toNat) (t 137 6)) (t 137 6)) = 0 then
            (if dgz (atb (up2 t 140 ((t 137 5).toNat) (t 137 6)) (t 137 6)) = 0 then
              (bo (rc 11 [atb (up2 t 140 ((t 137 5).toNat) (t 137 6)) (t 137 6)] (up2 t 140 ((t 137 5).toNat) (t 137 6))) fun z40 t40 =>
              some (some (z40, t40)))
            else
              (bo (rc 10 [] (up2 t 140 ((t 137 5).toNat) (t 137 6))) fun z41 t41 =>
              some (some (z41, t41))))
          else
            (bo (rc 9 [] (up2 t 140 ((t 137 5).toNat) (t 137 6))) fun z42 t42 =>
            some (some (z42, t42))))
        else
          (some (some (3, up2 t 140 ((t 137 5).toNat) (t 137 6)))))
      else
        (rc 61 [] (up2 t 137 6 (t 137 6 + 1)))))
theorem cM25_99999_k {t : tab} : Kn (fun rc => cM25_99999 rc t) := by
  unfold cM25_99999
  exact (Kn_if (Kn_if (Kn_if (Kn_if (Kn_bo Kn_r fun _ _ => Kn_c) (Kn_bo Kn_r fun _ _ => Kn_c)) (Kn_bo Kn_r fun _ _ => Kn_c)) Kn_c) (Kn_if Kn_r (Kn_if (Kn_if (Kn_if (Kn_if (Kn_bo Kn_r fun _ _ => Kn_c) (Kn_bo Kn_r fun _ _ => Kn_c)) (Kn_bo Kn_r fun _ _ => Kn_c)) Kn_c) Kn_r)))
/-- scan -/
def cM24 (rc : MRq) (t : tab) : RO :=
  rc 62 [1] (up2 (up2 t 137 6 0) 137 5 0)
theorem cM24_k {t : tab} : Kn (fun rc => cM24 rc t) := by
  unfold cM24
  exact Kn_r
/-- scan, at 12 -/
def cM24_12 (rc : MRq) (y1 : Int) (t : tab) : RO :=
  if 2000 < t 137 5 then
    (some (some (0, up2 t 137 5 0)))
  else
    (if y1 = 3 then
      (some (some (0, up2 t 137 5 0)))
    else
      (if y1 = 4 then
        (some (some (0, up2 t 137 5 0)))
      else
        (bo (rc 12 [] t) fun z8 t8 =>
        rc 62 [z8] (up2 (up2 t8 139 ((t8 137 5).toNat) z8) 137 5 (t8 137 5 + 1)))))
theorem cM24_12_k {y1 : Int} {t : tab} : Kn (fun rc => cM24_12 rc y1 t) := by
  unfold cM24_12
  exact (Kn_if Kn_c (Kn_if Kn_c (Kn_if Kn_c (Kn_bo Kn_r fun _ _ => Kn_r))))
/-- find -/
def cM39 (rc : MRq) (x1 x3 : Int) (t : tab) : RO :=
  rc 63 [x1, (-1), mxx x3 0] t
theorem cM39_k {x1 x3 : Int} {t : tab} : Kn (fun rc => cM39 rc x1 x3 t) := by
  unfold cM39
  exact Kn_r
/-- find, at 10 -/
def cM39_10 (rc : MRq) (y1 y4 y5 : Int) (t : tab) : RO :=
  if t 105 3 ≤ y5 then
    (some (some (y4, t)))
  else
    (if t 106 y5.toNat ≠ y1 then
      (rc 63 [y1, y4, y5 + 1] t)
    else
      (rc 63 [y1, y5, y5 + 1] t))
theorem cM39_10_k {y1 y4 y5 : Int} {t : tab} : Kn (fun rc => cM39_10 rc y1 y4 y5 t) := by
  unfold cM39_10
  exact (Kn_if Kn_c (Kn_if Kn_r Kn_r))
/-- add -/
def cM42 (rc : MRq) (x1 x3 x4 : Int) (t : tab) : RO :=
  if 58 ≤ t 105 3 then
    (some (some (0, t)))
  else
    (some (some (0, up2 (up2 (up2 (up2 t 106 ((t 105 3).toNat) x1) 107 ((t 105 3).toNat) x3) 108 ((t 105 3).toNat) x4) 105 3 (t 105 3 + 1))))
theorem cM42_k {x1 x3 x4 : Int} {t : tab} : Kn (fun rc => cM42 rc x1 x3 x4 t) := by
  unfold cM42
  exact (Kn_if Kn_c Kn_c)
/-- cut -/
def cM22 (rc : MRq) (x1 : Int) (t : tab) : RO :=
  if x1 < 0 then
    (some (some (0, t)))
  else
    (if t 105 3 ≤ x1 then
      (some (some (0, t)))
    else
      (some (some (0, up2 t 105 3 x1))))
theorem cM22_k {x1 : Int} {t : tab} : Kn (fun rc => cM22 rc x1 t) := by
  unfold cM22
  exact (Kn_if Kn_c (Kn_if Kn_c Kn_c))
/-- kind -/
def cM62 (rc : MRq) (x1 : Int) (t : tab) : RO :=
  if x1 < 0 then
    (some (some ((-1), t)))
  else
    (if t 105 3 ≤ x1 then
      (some (some ((-1), t)))
    else
      (some (some (t 107 x1.toNat, t))))
theorem cM62_k {x1 : Int} {t : tab} : Kn (fun rc => cM62 rc x1 t) := by
  unfold cM62
  exact (Kn_if Kn_c (Kn_if Kn_c Kn_c))
/-- number -/
def cM63 (rc : MRq) (x1 : Int) (t : tab) : RO :=
  if x1 < 0 then
    (some (some ((-1), t)))
  else
    (if t 105 3 ≤ x1 then
      (some (some ((-1), t)))
    else
      (some (some (t 108 x1.toNat, t))))
theorem cM63_k {x1 : Int} {t : tab} : Kn (fun rc => cM63 rc x1 t) := by
  unfold cM63
  exact (Kn_if Kn_c (Kn_if Kn_c Kn_c))
/-- clear -/
def cM21 (rc : MRq) (t : tab) : RO :=
  bo (rc 56 [0] ((ncu t 0))) fun z2 t2 =>
  some (some (0, up2 (up2 t2 99 12 0) 99 13 ((-1))))
theorem cM21_k {t : tab} : Kn (fun rc => cM21 rc t) := by
  unfold cM21
  exact (Kn_bo Kn_r fun _ _ => Kn_c)
/-- has -/
def cM67 (rc : MRq) (x1 : Int) (t : tab) : RO :=
  if x1 < 0 then
    (some (some (0, t)))
  else
    (if t 99 12 ≤ x1 then
      (some (some (0, t)))
    else
      (some (some (1, t))))
theorem cM67_k {x1 : Int} {t : tab} : Kn (fun rc => cM67 rc x1 t) := by
  unfold cM67
  exact (Kn_if Kn_c (Kn_if Kn_c Kn_c))
/-- add -/
def cM54 (rc : MRq) (x1 x2 x3 x4 : Int) (t : tab) : RO :=
  if t 99 12 < 2000 then
    (some (some ((t 99 12 + 1) - 1, up2 (up2 (up2 (up2 (up2 (up2 t 100 ((t 99 12).toNat) x1) 101 ((t 99 12).toNat) x2) 102 ((t 99 12).toNat) x3) 103 ((t 99 12).toNat) x4) 104 ((t 99 12).toNat) ((-1))) 99 12 (t 99 12 + 1))))
  else
    (some (some ((-1), t)))
theorem cM54_k {x1 x2 x3 x4 : Int} {t : tab} : Kn (fun rc => cM54 rc x1 x2 x3 x4 t) := by
  unfold cM54
  exact (Kn_if Kn_c Kn_c)
/-- link -/
def cM66 (rc : MRq) (x1 x2 : Int) (t : tab) : RO :=
  if hsz t x1 = 0 then
    (some (some (0, t)))
  else
    (some (some (0, up2 t 104 x1.toNat x2)))
theorem cM66_k {x1 x2 : Int} {t : tab} : Kn (fun rc => cM66 rc x1 x2 t) := by
  unfold cM66
  exact (Kn_if Kn_c Kn_c)
/-- setBits -/
def cM46 (rc : MRq) (x1 x2 : Int) (t : tab) : RO :=
  if x1 < 0 then
    (some (some (0, t)))
  else
    (if 24 ≤ x1 then
      (some (some (0, t)))
    else
      (some (some (0, up2 t 110 x1.toNat x2))))
theorem cM46_k {x1 x2 : Int} {t : tab} : Kn (fun rc => cM46 rc x1 x2 t) := by
  unfold cM46
  exact (Kn_if Kn_c (Kn_if Kn_c Kn_c))
/-- setSize -/
def cM77 (rc : MRq) (x1 x2 : Int) (t : tab) : RO :=
  if x1 < 0 then
    (some (some (0, t)))
  else
    (if 6 ≤ x1 then
      (some (some (0, t)))
    else
      (some (some (0, up2 t 111 x1.toNat x2))))
theorem cM77_k {x1 x2 : Int} {t : tab} : Kn (fun rc => cM77 rc x1 x2 t) := by
  unfold cM77
  exact (Kn_if Kn_c (Kn_if Kn_c Kn_c))
/-- setParameters -/
def cM47 (rc : MRq) (x1 x2 x3 : Int) (t : tab) : RO :=
  if x1 < 0 then
    (some (some (0, t)))
  else
    (if 12 ≤ x1 then
      (some (some (0, t)))
    else
      (some (some (0, up2 (up2 t 113 x1.toNat x2) 112 x1.toNat x3))))
theorem cM47_k {x1 x2 x3 : Int} {t : tab} : Kn (fun rc => cM47 rc x1 x2 x3 t) := by
  unfold cM47
  exact (Kn_if Kn_c (Kn_if Kn_c Kn_c))
/-- parameters -/
def cM48 (rc : MRq) (x1 : Int) (t : tab) : RO :=
  if x1 < 0 then
    (some (some (0, t)))
  else
    (if 12 ≤ x1 then
      (some (some (0, t)))
    else
      (some (some (t 112 x1.toNat, t))))
theorem cM48_k {x1 : Int} {t : tab} : Kn (fun rc => cM48 rc x1 t) := by
  unfold cM48
  exact (Kn_if Kn_c (Kn_if Kn_c Kn_c))
/-- check -/
def cM41 (rc : MRq) (x1 : Int) (t : tab) : RO :=
  if x1 ≠ 0 then
    (some (some (0, t)))
  else
    (some none)
theorem cM41_k {x1 : Int} {t : tab} : Kn (fun rc => cM41 rc x1 t) := by
  unfold cM41
  exact (Kn_if Kn_c Kn_c)
/-- level -/
def cM68 (rc : MRq) (x0 : Int) (t : tab) : RO :=
  if x0 = 37 then
    (some (some (10, t)))
  else
    (if x0 = 38 then
      (some (some (5, t)))
    else
      (if x0 = 42 then
        (some (some (10, t)))
      else
        (if x0 = 43 then
          (some (some (9, t)))
        else
          (if x0 = 45 then
            (some (some (9, t)))
          else
            (if x0 = 47 then
              (some (some (10, t)))
            else
              (if x0 = 60 then
                (some (some (7, t)))
              else
                (if x0 = 62 then
                  (some (some (7, t)))
                else
                  (if x0 = 94 then
                    (some (some (4, t)))
                  else
                    (if x0 = 124 then
                      (some (some (3, t)))
                    else
                      (if x0 = 8509 then
                        (some (some (6, t)))
                      else
                        (if x0 = 9766 then
                          (some (some (2, t)))
                        else
                          (if x0 = 15420 then
                            (some (some (8, t)))
                          else
                            (if x0 = 15421 then
                              (some (some (7, t)))
                            else
                              (if x0 = 15677 then
                                (some (some (6, t)))
                              else
                                (if x0 = 15933 then
                                  (some (some (7, t)))
                                else
                                  (if x0 = 15934 then
                                    (some (some (8, t)))
                                  else
                                    (if x0 = 31868 then
                                      (some (some (1, t)))
                                    else
                                      (some (some (0, t))))))))))))))))))))
theorem cM68_k {x0 : Int} {t : tab} : Kn (fun rc => cM68 rc x0 t) := by
  unfold cM68
  exact (Kn_if Kn_c (Kn_if Kn_c (Kn_if Kn_c (Kn_if Kn_c (Kn_if Kn_c (Kn_if Kn_c (Kn_if Kn_c (Kn_if Kn_c (Kn_if Kn_c (Kn_if Kn_c (Kn_if Kn_c (Kn_if Kn_c (Kn_if Kn_c (Kn_if Kn_c (Kn_if Kn_c (Kn_if Kn_c (Kn_if Kn_c (Kn_if Kn_c Kn_c))))))))))))))))))
/-- expect -/
def cM43 (rc : MRq) (x1 : Int) (t : tab) : RO :=
  if kkd t ≠ x1 then
    (some none)
  else
    (some (some (0, (stp t))))
theorem cM43_k {x1 : Int} {t : tab} : Kn (fun rc => cM43 rc x1 t) := by
  unfold cM43
  exact (Kn_if Kn_c Kn_c)
/-- number -/
def cM59 (rc : MRq) (x1 x2 : Int) (t : tab) : RO :=
  if kkd t ≠ 2 then
    (some none)
  else
    (if vlu t < x1 then
      (some none)
    else
      (if x2 < vlu t then
        (some none)
      else
        (some (some (l2x (vlu t), (stp t))))))
theorem cM59_k {x1 x2 : Int} {t : tab} : Kn (fun rc => cM59 rc x1 x2 t) := by
  unfold cM59
  exact (Kn_if Kn_c (Kn_if Kn_c (Kn_if Kn_c Kn_c)))
/-- declare -/
def cM37 (rc : MRq) (x1 x2 : Int) (t : tab) : RO :=
  if kkd t ≠ 1 then
    (some none)
  else
    (if 0 ≤ fdn t (vlu t) x2 then
      (some none)
    else
      (if x1 ≠ 6 then
        (if x1 < 0 then
          (some none)
        else
          (if 6 ≤ x1 then
            (some none)
          else
            (if LIM x1.toNat ≤ t 109 x1.toNat then
              (some none)
            else
              (some (some (t 109 x1.toNat, (stp ((nad (up2 t 109 x1.toNat (t 109 x1.toNat + 1)) (vlu (up2 t 109 x1.toNat (t 109 x1.toNat + 1))) x1 (t 109 x1.toNat))))))))))
      else
        (if LIM 5 ≤ t 109 5 then
          (some none)
        else
          (some (some (t 109 5, (stp ((nad (up2 t 109 5 (t 109 5 + 1)) (vlu (up2 t 109 5 (t 109 5 + 1))) x1 (t 109 5))))))))))
theorem cM37_k {x1 x2 : Int} {t : tab} : Kn (fun rc => cM37 rc x1 x2 t) := by
  unfold cM37
  exact (Kn_if Kn_c (Kn_if Kn_c (Kn_if (Kn_if Kn_c (Kn_if Kn_c (Kn_if Kn_c Kn_c))) (Kn_if Kn_c Kn_c))))
/-- declareInt -/
def cM45 (rc : MRq) (x1 : Int) (t : tab) : RO :=
  bo (rc 31 [0, x1] t) fun z1 t1 =>
  some (some (0, (sbi t1 z1 0)))
theorem cM45_k {x1 : Int} {t : tab} : Kn (fun rc => cM45 rc x1 t) := by
  unfold cM45
  exact (Kn_bo Kn_r fun _ _ => Kn_c)
/-- meaning -/
def cM61 (rc : MRq) (t : tab) : RO :=
  if kkd t ≠ 1 then
    (some none)
  else
    (if fdn t (vlu t) 0 < 0 then
      (some none)
    else
      (some (some (fdn t (vlu t) 0, t))))
theorem cM61_k {t : tab} : Kn (fun rc => cM61 rc t) := by
  unfold cM61
  exact (Kn_if Kn_c (Kn_if Kn_c Kn_c))
/-- line -/
def cM73 (rc : MRq) (x1 : Int) (t : tab) : RO :=
  if nkd t x1 ≠ 2 then
    (some (some (ipl 8 (nnm t x1), t)))
  else
    (some (some (nnm t x1, t)))
theorem cM73_k {x1 : Int} {t : tab} : Kn (fun rc => cM73 rc x1 t) := by
  unfold cM73
  exact (Kn_if Kn_c Kn_c)
/-- target -/
def cM72 (rc : MRq) (x1 : Int) (t : tab) : RO :=
  if kkd t ≠ 91 then
    (if nkd t x1 ≠ 0 then
      (some none)
    else
      (some (some (ipl (nnm t x1) 0, up2 (up2 t 131 7 (lo (t 131 7) (lsl 1 (ipl (nnm t x1) 0)))) 131 8 (lo (t 131 8) (lsl 1 (ipl (nnm t x1) 0)))))))
  else
    (if nkd t x1 ≠ 1 then
      (some none)
    else
      (some (some (ipl (nnm t x1) 24, up2 (up2 t 131 7 (lo (t 131 7) (lsl 1 (ipl (nnm t x1) 24)))) 131 8 (lo (t 131 8) (lsl 1 (ipl (nnm t x1) 24)))))))
theorem cM72_k {x1 : Int} {t : tab} : Kn (fun rc => cM72 rc x1 t) := by
  unfold cM72
  exact (Kn_if (Kn_if Kn_c Kn_c) (Kn_if Kn_c Kn_c))
/-- join -/
def cM69 (rc : MRq) (x1 x2 x3 : Int) (t : tab) : RO :=
  rc 64 [x1, x2, x3] t
theorem cM69_k {x1 x2 x3 : Int} {t : tab} : Kn (fun rc => cM69 rc x1 x2 x3 t) := by
  unfold cM69
  exact Kn_r
/-- join, at 3 -/
def cM69_3 (rc : MRq) (y1 y2 y4 : Int) (t : tab) : RO :=
  if t 131 6 ≤ y1 then
    (some (some (y4, t)))
  else
    (if t 131 6 ≤ 0 then
      (some (some (y4, t)))
    else
      (if lvl (t 132 (((t 131 6) - 1).toNat)) < y2 then
        (some (some (y4, t)))
      else
        (rc 64 [y1, y2, cadz (up2 t 131 6 ((t 131 6) - 1))] ((cad (up2 t 131 6 ((t 131 6) - 1)) 403 (t 132 (((t 131 6) - 1).toNat)) (t 133 (((t 131 6) - 1).toNat)) y4)))))
theorem cM69_3_k {y1 y2 y4 : Int} {t : tab} : Kn (fun rc => cM69_3 rc y1 y2 y4 t) := by
  unfold cM69_3
  exact (Kn_if Kn_c (Kn_if Kn_c (Kn_if Kn_c Kn_r)))
/-- subscript -/
def cM64 (rc : MRq) (x1 : Int) (t : tab) : RO :=
  if 20 ≤ x1 then
    (some none)
  else
    (bo (rc 40 [x1 + 1] ((stp t))) fun z8 t8 =>
    bo (rc 29 [93] t8) fun z9 t9 =>
    some (some (z8, t9)))
theorem cM64_k {x1 : Int} {t : tab} : Kn (fun rc => cM64 rc x1 t) := by
  unfold cM64
  exact (Kn_if Kn_c (Kn_bo Kn_r fun _ _ => (Kn_bo Kn_r fun _ _ => Kn_c)))
/-- condition -/
def cM56 (rc : MRq) (x1 : Int) (t : tab) : RO :=
  bo (rc 29 [40] ((stp t))) fun z2 t2 =>
  bo (rc 40 [x1] t2) fun z3 t3 =>
  bo (rc 29 [41] t3) fun z4 t4 =>
  some (some (z3, t4))
theorem cM56_k {x1 : Int} {t : tab} : Kn (fun rc => cM56 rc x1 t) := by
  unfold cM56
  exact (Kn_bo Kn_r fun _ _ => (Kn_bo Kn_r fun _ _ => (Kn_bo Kn_r fun _ _ => Kn_c)))
/-- call -/
def cM65 (rc : MRq) (x1 x3 : Int) (t : tab) : RO :=
  if x1 < 0 then
    (some none)
  else
    (if 12 ≤ x1 then
      (some none)
    else
      (rc 65 [x1, x3, (-1), (-1), 0] ((stp t))))
theorem cM65_k {x1 x3 : Int} {t : tab} : Kn (fun rc => cM65 rc x1 x3 t) := by
  unfold cM65
  exact (Kn_if Kn_c (Kn_if Kn_c Kn_r))
/-- call, at 36 -/
def cM65_36 (rc : MRq) (y1 y3 y4 y5 y6 : Int) (t : tab) : RO :=
  if 2000 ≤ y6 then
    (if kkd t ≠ 41 then
      (some none)
    else
      (if y6 ≠ prm t y1 then
        (some none)
      else
        (some (some (cadz (up2 (up2 (up2 ((stp t)) 131 7 (lo ((stp t) 131 7) ((stp t) 134 y1.toNat))) 131 8 (lo ((stp t) 131 8) ((stp t) 135 y1.toNat))) 131 9 (lo ((stp t) 131 9) (lo ((stp t) 136 y1.toNat) (lsl 1 (24 + y1))))), (cad (up2 (up2 (up2 ((stp t)) 131 7 (lo ((stp t) 131 7) ((stp t) 134 y1.toNat))) 131 8 (lo ((stp t) 131 8) ((stp t) 135 y1.toNat))) 131 9 (lo ((stp t) 131 9) (lo ((stp t) 136 y1.toNat) (lsl 1 (24 + y1))))) 404 y1 y4 y6))))))
  else
    (if y6 ≠ 0 then
      (if kkd t ≠ 44 then
        (if kkd t ≠ 41 then
          (some none)
        else
          (if y6 ≠ prm t y1 then
            (some none)
          else
            (some (some (cadz (up2 (up2 (up2 ((stp t)) 131 7 (lo ((stp t) 131 7) ((stp t) 134 y1.toNat))) 131 8 (lo ((stp t) 131 8) ((stp t) 135 y1.toNat))) 131 9 (lo ((stp t) 131 9) (lo ((stp t) 136 y1.toNat) (lsl 1 (24 + y1))))), (cad (up2 (up2 (up2 ((stp t)) 131 7 (lo ((stp t) 131 7) ((stp t) 134 y1.toNat))) 131 8 (lo ((stp t) 131 8) ((stp t) 135 y1.toNat))) 131 9 (lo ((stp t) 131 9) (lo ((stp t) 136 y1.toNat) (lsl 1 (24 + y1))))) 404 y1 y4 y6))))))
      else
        (if y6 ≤ 0 then
          (bo (rc 40 [y3] t) fun z62 t62 =>
          rc 65 [y1, y3, y4, z62, y6 + 1] ((lnk t62 y5 z62)))
        else
          (bo (rc 40 [y3] ((stp t))) fun z66 t66 =>
          rc 65 [y1, y3, y4, z66, y6 + 1] ((lnk t66 y5 z66)))))
    else
      (if kkd t = 41 then
        (if y6 ≠ prm t y1 then
          (some none)
        else
          (some (some (cadz (up2 (up2 (up2 ((stp t)) 131 7 (lo ((stp t) 131 7) ((stp t) 134 y1.toNat))) 131 8 (lo ((stp t) 131 8) ((stp t) 135 y1.toNat))) 131 9 (lo ((stp t) 131 9) (lo ((stp t) 136 y1.toNat) (lsl 1 (24 + y1))))), (cad (up2 (up2 (up2 ((stp t)) 131 7 (lo ((stp t) 131 7) ((stp t) 134 y1.toNat))) 131 8 (lo ((stp t) 131 8) ((stp t) 135 y1.toNat))) 131 9 (lo ((stp t) 131 9) (lo ((stp t) 136 y1.toNat) (lsl 1 (24 + y1))))) 404 y1 y4 y6)))))
      else
        (if y6 ≤ 0 then
          (bo (rc 40 [y3] t) fun z97 t97 =>
          rc 65 [y1, y3, z97, z97, y6 + 1] ((lnk t97 y5 z97)))
        else
          (bo (rc 40 [y3] ((stp t))) fun z101 t101 =>
          rc 65 [y1, y3, z101, z101, y6 + 1] ((lnk t101 y5 z101))))))
theorem cM65_36_k {y1 y3 y4 y5 y6 : Int} {t : tab} : Kn (fun rc => cM65_36 rc y1 y3 y4 y5 y6 t) := by
  unfold cM65_36
  exact (Kn_if (Kn_if Kn_c (Kn_if Kn_c Kn_c)) (Kn_if (Kn_if (Kn_if Kn_c (Kn_if Kn_c Kn_c)) (Kn_if (Kn_bo Kn_r fun _ _ => Kn_r) (Kn_bo Kn_r fun _ _ => Kn_r))) (Kn_if (Kn_if Kn_c Kn_c) (Kn_if (Kn_bo Kn_r fun _ _ => Kn_r) (Kn_bo Kn_r fun _ _ => Kn_r)))))
/-- expression -/
def cM57 (rc : MRq) (x1 : Int) (t : tab) : RO :=
  bo (rc 41 [x1] t) fun z2 t2 =>
  rc 66 [x1, t 131 6, z2, lvl (kkd t2), 0] t2
theorem cM57_k {x1 : Int} {t : tab} : Kn (fun rc => cM57 rc x1 t) := by
  unfold cM57
  exact (Kn_bo Kn_r fun _ _ => Kn_r)
/-- expression, at 26 -/
def cM57_26 (rc : MRq) (y1 y2 y3 y4 y5 : Int) (t : tab) : RO :=
  if 2000 ≤ y5 then
    (bo (rc 36 [y2, 1, y3] t) fun z2 t2 =>
    some (some (z2, t2)))
  else
    (if y4 ≤ 0 then
      (bo (rc 36 [y2, 1, y3] t) fun z4 t4 =>
      some (some (z4, t4)))
    else
      (bo (rc 36 [y2, y4, y3] t) fun z5 t5 =>
      if 210 ≤ t5 131 6 then
        (some none)
      else
        (bo (rc 41 [y1] ((stp (up2 (up2 (up2 t5 132 ((t5 131 6).toNat) (kkd t5)) 133 ((t5 131 6).toNat) z5) 131 6 (t5 131 6 + 1))))) fun z25 t25 =>
        rc 66 [y1, y2, z25, lvl (kkd t25), y5 + 1] t25)))
theorem cM57_26_k {y1 y2 y3 y4 y5 : Int} {t : tab} : Kn (fun rc => cM57_26 rc y1 y2 y3 y4 y5 t) := by
  unfold cM57_26
  exact (Kn_if (Kn_bo Kn_r fun _ _ => Kn_c) (Kn_if (Kn_bo Kn_r fun _ _ => Kn_c) (Kn_bo Kn_r fun _ _ => (Kn_if Kn_c (Kn_bo Kn_r fun _ _ => Kn_r)))))
/-- operand -/
def cM58 (rc : MRq) (x1 : Int) (t : tab) : RO :=
  if kkd t = 2 then
    (bo (rc 30 [0, 65535] t) fun z3 t3 =>
    some (some (cadz t3, (cad t3 2 z3 ((-1)) ((-1))))))
  else
    (if kkd t = 33 then
      (if 20 ≤ x1 then
        (some none)
      else
        (bo (rc 41 [x1 + 1] ((stp t))) fun z13 t13 =>
        some (some (cadz t13, (cad t13 402 (kkd t) z13 ((-1)))))))
    else
      (if kkd t = 40 then
        (if 20 ≤ x1 then
          (some none)
        else
          (bo (rc 40 [x1 + 1] ((stp t))) fun z23 t23 =>
          bo (rc 29 [41] t23) fun z24 t24 =>
          some (some (z23, t24))))
      else
        (if kkd t = 45 then
          (if 20 ≤ x1 then
            (some none)
          else
            (bo (rc 41 [x1 + 1] ((stp t))) fun z33 t33 =>
            some (some (cadz t33, (cad t33 402 (kkd t) z33 ((-1)))))))
        else
          (if kkd t = 126 then
            (if 20 ≤ x1 then
              (some none)
            else
              (bo (rc 41 [x1 + 1] ((stp t))) fun z43 t43 =>
              some (some (cadz t43, (cad t43 402 (kkd t) z43 ((-1)))))))
          else
            (bo (rc 42 [x1] t) fun z45 t45 =>
            some (some (z45, t45)))))))
theorem cM58_k {x1 : Int} {t : tab} : Kn (fun rc => cM58 rc x1 t) := by
  unfold cM58
  exact (Kn_if (Kn_bo Kn_r fun _ _ => Kn_c) (Kn_if (Kn_if Kn_c (Kn_bo Kn_r fun _ _ => Kn_c)) (Kn_if (Kn_if Kn_c (Kn_bo Kn_r fun _ _ => (Kn_bo Kn_r fun _ _ => Kn_c))) (Kn_if (Kn_if Kn_c (Kn_bo Kn_r fun _ _ => Kn_c)) (Kn_if (Kn_if Kn_c (Kn_bo Kn_r fun _ _ => Kn_c)) (Kn_bo Kn_r fun _ _ => Kn_c))))))
/-- namedOperand -/
def cM60 (rc : MRq) (x1 : Int) (t : tab) : RO :=
  bo (rc 33 [] t) fun z2 t2 =>
  if kkd ((stp t2)) ≠ 91 then
    (if kkd ((stp t2)) ≠ 40 then
      (if nkd t2 z2 ≠ 0 then
        (some none)
      else
        (some (some (cadz (up2 ((stp t2)) 131 7 (lo ((stp t2) 131 7) (lsl 1 (nnm t2 z2)))), (cad (up2 ((stp t2)) 131 7 (lo ((stp t2) 131 7) (lsl 1 (nnm t2 z2)))) 400 (nnm t2 z2) ((-1)) ((-1)))))))
    else
      (if nkd t2 z2 ≠ 6 then
        (some none)
      else
        (if nnm t2 z2 = (stp t2) 131 13 then
          (some none)
        else
          (if 20 ≤ x1 then
            (some none)
          else
            (bo (rc 39 [nnm t2 z2, x1 + 1] ((stp t2))) fun z28 t28 =>
            some (some (z28, t28)))))))
  else
    (if nkd t2 z2 ≠ 1 then
      (some none)
    else
      (bo (rc 37 [x1] (up2 ((stp t2)) 131 7 (lo ((stp t2) 131 7) (lsl 1 (ipl 24 (nnm t2 z2)))))) fun z35 t35 =>
      some (some (cadz t35, (cad t35 401 (nnm t2 z2) z35 ((-1)))))))
theorem cM60_k {x1 : Int} {t : tab} : Kn (fun rc => cM60 rc x1 t) := by
  unfold cM60
  exact (Kn_bo Kn_r fun _ _ => (Kn_if (Kn_if (Kn_if Kn_c Kn_c) (Kn_if Kn_c (Kn_if Kn_c (Kn_if Kn_c (Kn_bo Kn_r fun _ _ => Kn_c))))) (Kn_if Kn_c (Kn_bo Kn_r fun _ _ => Kn_c))))
/-- ints -/
def cM50 (rc : MRq) (x1 : Int) (t : tab) : RO :=
  rc 67 [x1, 0] t
theorem cM50_k {x1 : Int} {t : tab} : Kn (fun rc => cM50 rc x1 t) := by
  unfold cM50
  exact Kn_r
/-- ints, at 2 -/
def cM50_2 (rc : MRq) (y1 y2 : Int) (t : tab) : RO :=
  if 2000 ≤ y2 then
    (some (some (0, t)))
  else
    (if kkd t ≠ 301 then
      (some (some (0, t)))
    else
      (bo (rc 32 [y1] ((stp t))) fun z5 t5 =>
      bo (rc 29 [59] t5) fun z6 t6 =>
      rc 67 [y1, y2 + 1] t6))
theorem cM50_2_k {y1 y2 : Int} {t : tab} : Kn (fun rc => cM50_2 rc y1 y2 t) := by
  unfold cM50_2
  exact (Kn_if Kn_c (Kn_if Kn_c (Kn_bo Kn_r fun _ _ => (Kn_bo Kn_r fun _ _ => Kn_r))))
/-- row -/
def cM51 (rc : MRq) (x1 x2 : Int) (t : tab) : RO :=
  rc 68 [x1, x2, (-1), (-1), 0] t
theorem cM51_k {x1 x2 : Int} {t : tab} : Kn (fun rc => cM51 rc x1 x2 t) := by
  unfold cM51
  exact Kn_r
/-- row, at 8 -/
def cM51_8 (rc : MRq) (y1 y2 y3 y4 y5 : Int) (t : tab) : RO :=
  if 2000 ≤ y5 then
    (some (some (y3, up2 (up2 t 131 15 y4) 131 16 y5)))
  else
    (if kkd t = y1 then
      (some (some (y3, up2 (up2 t 131 15 y4) 131 16 y5)))
    else
      (bo (rc 46 [ipl y2 1] t) fun z9 t9 =>
      if y5 ≠ 0 then
        (rc 68 [y1, y2, y3, z9, y5 + 1] ((lnk t9 y4 z9)))
      else
        (rc 68 [y1, y2, z9, z9, y5 + 1] ((lnk t9 y4 z9)))))
theorem cM51_8_k {y1 y2 y3 y4 y5 : Int} {t : tab} : Kn (fun rc => cM51_8 rc y1 y2 y3 y4 y5 t) := by
  unfold cM51_8
  exact (Kn_if Kn_c (Kn_if Kn_c (Kn_bo Kn_r fun _ _ => (Kn_if Kn_r Kn_r))))
/-- block -/
def cM53 (rc : MRq) (x1 x2 : Int) (t : tab) : RO :=
  bo (rc 29 [123] t) fun z1 t1 =>
  bo (rc 43 [x2] t1) fun z2 t2 =>
  bo (rc 44 [125, x1] t2) fun z3 t3 =>
  bo (rc 29 [125] t3) fun z5 t5 =>
  if t3 131 16 ≠ 1 then
    (if t3 131 16 ≠ 0 then
      (some (some (cadz ((ncu t5 x2)), (cad ((ncu t5 x2)) 408 z3 ((-1)) ((-1))))))
    else
      (some (some (cadz ((ncu t5 x2)), (cad ((ncu t5 x2)) 314 z3 ((-1)) ((-1)))))))
  else
    (some (some (z3, (ncu t5 x2))))
theorem cM53_k {x1 x2 : Int} {t : tab} : Kn (fun rc => cM53 rc x1 x2 t) := by
  unfold cM53
  exact (Kn_bo Kn_r fun _ _ => (Kn_bo Kn_r fun _ _ => (Kn_bo Kn_r fun _ _ => (Kn_bo Kn_r fun _ _ => (Kn_if (Kn_if Kn_c Kn_c) Kn_c)))))
/-- statement -/
def cM52 (rc : MRq) (x1 : Int) (t : tab) : RO :=
  if 20 < x1 then
    (some none)
  else
    (if kkd t = 123 then
      (bo (rc 45 [x1, t 105 3] t) fun z9 t9 =>
      some (some (z9, t9)))
    else
      (if kkd t = 308 then
        (bo (rc 47 [x1] t) fun z11 t11 =>
        some (some (z11, t11)))
      else
        (if kkd t = 310 then
          (bo (rc 38 [x1] t) fun z13 t13 =>
          bo (rc 46 [x1 + 1] t13) fun z15 t15 =>
          some (some (cadz t15, (cad t15 310 z13 z15 ((-1))))))
        else
          (if kkd t = 311 then
            (bo (rc 30 [0, 65535] ((stp t))) fun z19 t19 =>
            bo (rc 46 [x1 + 1] t19) fun z21 t21 =>
            some (some (cadz t21, (cad t21 311 z19 z21 ((-1))))))
          else
            (if kkd t = 312 then
              (bo (rc 48 [x1] t) fun z24 t24 =>
              some (some (z24, t24)))
            else
              (if kkd t = 314 then
                (bo (rc 29 [59] ((stp t))) fun z27 t27 =>
                some (some (cadz t27, (cad t27 314 ((-1)) ((-1)) ((-1))))))
              else
                (bo (rc 49 [x1] t) fun z29 t29 =>
                some (some (z29, t29)))))))))
theorem cM52_k {x1 : Int} {t : tab} : Kn (fun rc => cM52 rc x1 t) := by
  unfold cM52
  exact (Kn_if Kn_c (Kn_if (Kn_bo Kn_r fun _ _ => Kn_c) (Kn_if (Kn_bo Kn_r fun _ _ => Kn_c) (Kn_if (Kn_bo Kn_r fun _ _ => (Kn_bo Kn_r fun _ _ => Kn_c)) (Kn_if (Kn_bo Kn_r fun _ _ => (Kn_bo Kn_r fun _ _ => Kn_c)) (Kn_if (Kn_bo Kn_r fun _ _ => Kn_c) (Kn_if (Kn_bo Kn_r fun _ _ => Kn_c) (Kn_bo Kn_r fun _ _ => Kn_c))))))))
/-- choice -/
def cM55 (rc : MRq) (x1 : Int) (t : tab) : RO :=
  bo (rc 38 [x1] t) fun z1 t1 =>
  bo (rc 46 [ipl x1 1] t1) fun z3 t3 =>
  if kkd t3 ≠ 309 then
    (some (some (cadz t3, (cad t3 308 z1 z3 ((-1))))))
  else
    (bo (rc 46 [ipl x1 1] ((stp t3))) fun z9 t9 =>
    some (some (cadz t9, (cad t9 308 z1 z3 z9))))
theorem cM55_k {x1 : Int} {t : tab} : Kn (fun rc => cM55 rc x1 t) := by
  unfold cM55
  exact (Kn_bo Kn_r fun _ _ => (Kn_bo Kn_r fun _ _ => (Kn_if Kn_c (Kn_bo Kn_r fun _ _ => Kn_c))))
/-- branches -/
def cM70 (rc : MRq) (x1 : Int) (t : tab) : RO :=
  rc 69 [x1, plc t, t 131 7, t 131 8, t 131 9, 0, 0, 0, 0, (-1), (-1), 0] ((stp t))
theorem cM70_k {x1 : Int} {t : tab} : Kn (fun rc => cM70 rc x1 t) := by
  unfold cM70
  exact Kn_r
/-- branches, at 53 -/
def cM70_53 (rc : MRq) (y1 y2 y3 y5 y7 y9 y11 y13 y15 y16 y17 y18 : Int) (t : tab) : RO :=
  if y18 < 2 then
    (if y18 ≠ 0 then
      (bo (rc 29 [124] t) fun z3 t3 =>
      bo (rc 46 [ipl y1 1] (up2 (up2 (up2 t3 131 7 0) 131 8 0) 131 9 0)) fun z8 t8 =>
      if lo (lo (la ((lnk t8 y17 z8) 131 8) y9) (la ((lnk t8 y17 z8) 131 7) y11)) (la ((lnk t8 y17 z8) 131 9) y13) = 0 then
        (rc 69 [y1, y2, y3, y5, y7, lo y9 ((lnk t8 y17 z8) 131 7), lo y11 ((lnk t8 y17 z8) 131 8), lo y13 ((lnk t8 y17 z8) 131 9), ior y15 0, y16, z8, y18 + 1] ((lnk t8 y17 z8)))
      else
        (rc 69 [y1, y2, y3, y5, y7, lo y9 ((lnk t8 y17 z8) 131 7), lo y11 ((lnk t8 y17 z8) 131 8), lo y13 ((lnk t8 y17 z8) 131 9), ior y15 1, y16, z8, y18 + 1] ((lnk t8 y17 z8))))
    else
      (bo (rc 29 [123] t) fun z24 t24 =>
      bo (rc 46 [ipl y1 1] (up2 (up2 (up2 t24 131 7 0) 131 8 0) 131 9 0)) fun z29 t29 =>
      if lo (lo (la ((lnk t29 y17 z29) 131 8) y9) (la ((lnk t29 y17 z29) 131 7) y11)) (la ((lnk t29 y17 z29) 131 9) y13) = 0 then
        (rc 69 [y1, y2, y3, y5, y7, lo y9 ((lnk t29 y17 z29) 131 7), lo y11 ((lnk t29 y17 z29) 131 8), lo y13 ((lnk t29 y17 z29) 131 9), ior y15 0, z29, z29, y18 + 1] ((lnk t29 y17 z29)))
      else
        (rc 69 [y1, y2, y3, y5, y7, lo y9 ((lnk t29 y17 z29) 131 7), lo y11 ((lnk t29 y17 z29) 131 8), lo y13 ((lnk t29 y17 z29) 131 9), ior y15 1, z29, z29, y18 + 1] ((lnk t29 y17 z29)))))
  else
    (if 6 ≤ y18 then
      (bo (rc 29 [125] t) fun z46 t46 =>
      if y15 = 0 then
        (some (some (cadz (up2 (up2 (up2 t46 131 7 (lo y3 y9)) 131 8 (lo y5 y11)) 131 9 (lo y7 y13)), (cad (up2 (up2 (up2 t46 131 7 (lo y3 y9)) 131 8 (lo y5 y11)) 131 9 (lo y7 y13)) 312 y16 y18 ((-1))))))
      else
        (if t46 131 3 = (-2) then
          (some (some (cadz (up2 (up2 (up2 (up2 t46 131 7 (lo y3 y9)) 131 8 (lo y5 y11)) 131 9 (lo y7 y13)) 131 3 y2), (cad (up2 (up2 (up2 (up2 t46 131 7 (lo y3 y9)) 131 8 (lo y5 y11)) 131 9 (lo y7 y13)) 131 3 y2) 312 y16 y18 ((-1))))))
        else
          (if t46 131 3 ≤ y2 then
            (some (some (cadz (up2 (up2 (up2 t46 131 7 (lo y3 y9)) 131 8 (lo y5 y11)) 131 9 (lo y7 y13)), (cad (up2 (up2 (up2 t46 131 7 (lo y3 y9)) 131 8 (lo y5 y11)) 131 9 (lo y7 y13)) 312 y16 y18 ((-1))))))
          else
            (some (some (cadz (up2 (up2 (up2 (up2 t46 131 7 (lo y3 y9)) 131 8 (lo y5 y11)) 131 9 (lo y7 y13)) 131 3 y2), (cad (up2 (up2 (up2 (up2 t46 131 7 (lo y3 y9)) 131 8 (lo y5 y11)) 131 9 (lo y7 y13)) 131 3 y2) 312 y16 y18 ((-1)))))))))
    else
      (if kkd t ≠ 124 then
        (bo (rc 29 [125] t) fun z63 t63 =>
        if y15 = 0 then
          (some (some (cadz (up2 (up2 (up2 t63 131 7 (lo y3 y9)) 131 8 (lo y5 y11)) 131 9 (lo y7 y13)), (cad (up2 (up2 (up2 t63 131 7 (lo y3 y9)) 131 8 (lo y5 y11)) 131 9 (lo y7 y13)) 312 y16 y18 ((-1))))))
        else
          (if t63 131 3 = (-2) then
            (some (some (cadz (up2 (up2 (up2 (up2 t63 131 7 (lo y3 y9)) 131 8 (lo y5 y11)) 131 9 (lo y7 y13)) 131 3 y2), (cad (up2 (up2 (up2 (up2 t63 131 7 (lo y3 y9)) 131 8 (lo y5 y11)) 131 9 (lo y7 y13)) 131 3 y2) 312 y16 y18 ((-1))))))
          else
            (if t63 131 3 ≤ y2 then
              (some (some (cadz (up2 (up2 (up2 t63 131 7 (lo y3 y9)) 131 8 (lo y5 y11)) 131 9 (lo y7 y13)), (cad (up2 (up2 (up2 t63 131 7 (lo y3 y9)) 131 8 (lo y5 y11)) 131 9 (lo y7 y13)) 312 y16 y18 ((-1))))))
            else
              (some (some (cadz (up2 (up2 (up2 (up2 t63 131 7 (lo y3 y9)) 131 8 (lo y5 y11)) 131 9 (lo y7 y13)) 131 3 y2), (cad (up2 (up2 (up2 (up2 t63 131 7 (lo y3 y9)) 131 8 (lo y5 y11)) 131 9 (lo y7 y13)) 131 3 y2) 312 y16 y18 ((-1)))))))))
      else
        (if y18 ≠ 0 then
          (bo (rc 29 [124] t) fun z79 t79 =>
          bo (rc 46 [ipl y1 1] (up2 (up2 (up2 t79 131 7 0) 131 8 0) 131 9 0)) fun z84 t84 =>
          if lo (lo (la ((lnk t84 y17 z84) 131 8) y9) (la ((lnk t84 y17 z84) 131 7) y11)) (la ((lnk t84 y17 z84) 131 9) y13) = 0 then
            (rc 69 [y1, y2, y3, y5, y7, lo y9 ((lnk t84 y17 z84) 131 7), lo y11 ((lnk t84 y17 z84) 131 8), lo y13 ((lnk t84 y17 z84) 131 9), ior y15 0, y16, z84, y18 + 1] ((lnk t84 y17 z84)))
          else
            (rc 69 [y1, y2, y3, y5, y7, lo y9 ((lnk t84 y17 z84) 131 7), lo y11 ((lnk t84 y17 z84) 131 8), lo y13 ((lnk t84 y17 z84) 131 9), ior y15 1, y16, z84, y18 + 1] ((lnk t84 y17 z84))))
        else
          (bo (rc 29 [123] t) fun z100 t100 =>
          bo (rc 46 [ipl y1 1] (up2 (up2 (up2 t100 131 7 0) 131 8 0) 131 9 0)) fun z105 t105 =>
          if lo (lo (la ((lnk t105 y17 z105) 131 8) y9) (la ((lnk t105 y17 z105) 131 7) y11)) (la ((lnk t105 y17 z105) 131 9) y13) = 0 then
            (rc 69 [y1, y2, y3, y5, y7, lo y9 ((lnk t105 y17 z105) 131 7), lo y11 ((lnk t105 y17 z105) 131 8), lo y13 ((lnk t105 y17 z105) 131 9), ior y15 0, z105, z105, y18 + 1] ((lnk t105 y17 z105)))
          else
            (rc 69 [y1, y2, y3, y5, y7, lo y9 ((lnk t105 y17 z105) 131 7), lo y11 ((lnk t105 y17 z105) 131 8), lo y13 ((lnk t105 y17 z105) 131 9), ior y15 1, z105, z105, y18 + 1] ((lnk t105 y17 z105)))))))
theorem cM70_53_k {y1 y2 y3 y5 y7 y9 y11 y13 y15 y16 y17 y18 : Int} {t : tab} : Kn (fun rc => cM70_53 rc y1 y2 y3 y5 y7 y9 y11 y13 y15 y16 y17 y18 t) := by
  unfold cM70_53
  exact (Kn_if (Kn_if (Kn_bo Kn_r fun _ _ => (Kn_bo Kn_r fun _ _ => (Kn_if Kn_r Kn_r))) (Kn_bo Kn_r fun _ _ => (Kn_bo Kn_r fun _ _ => (Kn_if Kn_r Kn_r)))) (Kn_if (Kn_bo Kn_r fun _ _ => (Kn_if Kn_c (Kn_if Kn_c (Kn_if Kn_c Kn_c)))) (Kn_if (Kn_bo Kn_r fun _ _ => (Kn_if Kn_c (Kn_if Kn_c (Kn_if Kn_c Kn_c)))) (Kn_if (Kn_bo Kn_r fun _ _ => (Kn_bo Kn_r fun _ _ => (Kn_if Kn_r Kn_r))) (Kn_bo Kn_r fun _ _ => (Kn_bo Kn_r fun _ _ => (Kn_if Kn_r Kn_r)))))))
/-- namedStatement -/
def cM71 (rc : MRq) (x1 : Int) (t : tab) : RO :=
  bo (rc 33 [] t) fun z2 t2 =>
  if nkd t2 z2 ≠ 5 then
    (if nkd t2 z2 = 6 then
      (some none)
    else
      (if z2 < t2 131 14 then
        (some none)
      else
        (if kkd ((stp t2)) = 33 then
          (if nkd t2 z2 = 2 then
            (bo (rc 40 [x1] ((stp ((stp t2))))) fun z17 t17 =>
            bo (rc 29 [59] t17) fun z18 t18 =>
            some (some (cadz (up2 t18 131 9 (lo (t18 131 9) (lsl 1 (lin t18 z2)))), (cad (up2 t18 131 9 (lo (t18 131 9) (lsl 1 (lin t18 z2)))) 406 (lin (up2 t18 131 9 (lo (t18 131 9) (lsl 1 (lin t18 z2)))) z2) z17 ((-1))))))
          else
            (if nkd t2 z2 ≠ 4 then
              (some none)
            else
              (bo (rc 40 [x1] ((stp ((stp t2))))) fun z28 t28 =>
              bo (rc 29 [59] t28) fun z29 t29 =>
              some (some (cadz (up2 t29 131 9 (lo (t29 131 9) (lsl 1 (lin t29 z2)))), (cad (up2 t29 131 9 (lo (t29 131 9) (lsl 1 (lin t29 z2)))) 406 (lin (up2 t29 131 9 (lo (t29 131 9) (lsl 1 (lin t29 z2)))) z2) z28 ((-1))))))))
        else
          (if kkd ((stp t2)) = 61 then
            (bo (rc 35 [z2] ((stp t2))) fun z36 t36 =>
            if kkd t36 ≠ 91 then
              (bo (rc 29 [61] t36) fun z39 t39 =>
              bo (rc 40 [x1] t39) fun z40 t40 =>
              bo (rc 29 [59] t40) fun z41 t41 =>
              some (some (cadz t41, (cad t41 405 z36 z40 ((-1))))))
            else
              (bo (rc 37 [x1] t36) fun z43 t43 =>
              bo (rc 29 [61] t43) fun z44 t44 =>
              bo (rc 40 [x1] t44) fun z45 t45 =>
              bo (rc 29 [59] t45) fun z46 t46 =>
              some (some (cadz t46, (cad t46 405 z36 z45 z43)))))
          else
            (if kkd ((stp t2)) = 63 then
              (if nkd t2 z2 = 2 then
                (bo (rc 33 [] ((stp ((stp t2))))) fun z53 t53 =>
                bo (rc 35 [z53] ((stp t53))) fun z55 t55 =>
                if kkd t55 ≠ 91 then
                  (bo (rc 29 [59] t55) fun z58 t58 =>
                  some (some (cadz (up2 t58 131 9 (lo (t58 131 9) (lsl 1 (ipl 12 (lin t58 z2))))), (cad (up2 t58 131 9 (lo (t58 131 9) (lsl 1 (ipl 12 (lin t58 z2))))) 407 (lin (up2 t58 131 9 (lo (t58 131 9) (lsl 1 (ipl 12 (lin t58 z2))))) z2) z55 ((-1))))))
                else
                  (bo (rc 37 [x1] t55) fun z65 t65 =>
                  bo (rc 29 [59] t65) fun z66 t66 =>
                  some (some (cadz (up2 t66 131 9 (lo (t66 131 9) (lsl 1 (ipl 12 (lin t66 z2))))), (cad (up2 t66 131 9 (lo (t66 131 9) (lsl 1 (ipl 12 (lin t66 z2))))) 407 (lin (up2 t66 131 9 (lo (t66 131 9) (lsl 1 (ipl 12 (lin t66 z2))))) z2) z55 z65)))))
              else
                (if nkd t2 z2 ≠ 3 then
                  (some none)
                else
                  (bo (rc 33 [] ((stp ((stp t2))))) fun z78 t78 =>
                  bo (rc 35 [z78] ((stp t78))) fun z80 t80 =>
                  if kkd t80 ≠ 91 then
                    (bo (rc 29 [59] t80) fun z83 t83 =>
                    some (some (cadz (up2 t83 131 9 (lo (t83 131 9) (lsl 1 (ipl 12 (lin t83 z2))))), (cad (up2 t83 131 9 (lo (t83 131 9) (lsl 1 (ipl 12 (lin t83 z2))))) 407 (lin (up2 t83 131 9 (lo (t83 131 9) (lsl 1 (ipl 12 (lin t83 z2))))) z2) z80 ((-1))))))
                  else
                    (bo (rc 37 [x1] t80) fun z90 t90 =>
                    bo (rc 29 [59] t90) fun z91 t91 =>
                    some (some (cadz (up2 t91 131 9 (lo (t91 131 9) (lsl 1 (ipl 12 (lin t91 z2))))), (cad (up2 t91 131 9 (lo (t91 131 9) (lsl 1 (ipl 12 (lin t91 z2))))) 407 (lin (up2 t91 131 9 (lo (t91 131 9) (lsl 1 (ipl 12 (lin t91 z2))))) z2) z80 z90)))))))
            else
              (if kkd ((stp t2)) = 91 then
                (bo (rc 35 [z2] ((stp t2))) fun z99 t99 =>
                if kkd t99 ≠ 91 then
                  (bo (rc 29 [61] t99) fun z102 t102 =>
                  bo (rc 40 [x1] t102) fun z103 t103 =>
                  bo (rc 29 [59] t103) fun z104 t104 =>
                  some (some (cadz t104, (cad t104 405 z99 z103 ((-1))))))
                else
                  (bo (rc 37 [x1] t99) fun z106 t106 =>
                  bo (rc 29 [61] t106) fun z107 t107 =>
                  bo (rc 40 [x1] t107) fun z108 t108 =>
                  bo (rc 29 [59] t108) fun z109 t109 =>
                  some (some (cadz t109, (cad t109 405 z99 z108 z106)))))
              else
                (some none)))))))
  else
    (if nnm t2 z2 ≠ t2 131 13 then
      (if nkd t2 z2 = 6 then
        (some none)
      else
        (if z2 < t2 131 14 then
          (some none)
        else
          (if kkd ((stp t2)) = 33 then
            (if nkd t2 z2 = 2 then
              (bo (rc 40 [x1] ((stp ((stp t2))))) fun z133 t133 =>
              bo (rc 29 [59] t133) fun z134 t134 =>
              some (some (cadz (up2 t134 131 9 (lo (t134 131 9) (lsl 1 (lin t134 z2)))), (cad (up2 t134 131 9 (lo (t134 131 9) (lsl 1 (lin t134 z2)))) 406 (lin (up2 t134 131 9 (lo (t134 131 9) (lsl 1 (lin t134 z2)))) z2) z133 ((-1))))))
            else
              (if nkd t2 z2 ≠ 4 then
                (some none)
              else
                (bo (rc 40 [x1] ((stp ((stp t2))))) fun z144 t144 =>
                bo (rc 29 [59] t144) fun z145 t145 =>
                some (some (cadz (up2 t145 131 9 (lo (t145 131 9) (lsl 1 (lin t145 z2)))), (cad (up2 t145 131 9 (lo (t145 131 9) (lsl 1 (lin t145 z2)))) 406 (lin (up2 t145 131 9 (lo (t145 131 9) (lsl 1 (lin t145 z2)))) z2) z144 ((-1))))))))
          else
            (if kkd ((stp t2)) = 61 then
              (bo (rc 35 [z2] ((stp t2))) fun z152 t152 =>
              if kkd t152 ≠ 91 then
                (bo (rc 29 [61] t152) fun z155 t155 =>
                bo (rc 40 [x1] t155) fun z156 t156 =>
                bo (rc 29 [59] t156) fun z157 t157 =>
                some (some (cadz t157, (cad t157 405 z152 z156 ((-1))))))
              else
                (bo (rc 37 [x1] t152) fun z159 t159 =>
                bo (rc 29 [61] t159) fun z160 t160 =>
                bo (rc 40 [x1] t160) fun z161 t161 =>
                bo (rc 29 [59] t161) fun z162 t162 =>
                some (some (cadz t162, (cad t162 405 z152 z161 z159)))))
            else
              (if kkd ((stp t2)) = 63 then
                (if nkd t2 z2 = 2 then
                  (bo (rc 33 [] ((stp ((stp t2))))) fun z169 t169 =>
                  bo (rc 35 [z169] ((stp t169))) fun z171 t171 =>
                  if kkd t171 ≠ 91 then
                    (bo (rc 29 [59] t171) fun z174 t174 =>
                    some (some (cadz (up2 t174 131 9 (lo (t174 131 9) (lsl 1 (ipl 12 (lin t174 z2))))), (cad (up2 t174 131 9 (lo (t174 131 9) (lsl 1 (ipl 12 (lin t174 z2))))) 407 (lin (up2 t174 131 9 (lo (t174 131 9) (lsl 1 (ipl 12 (lin t174 z2))))) z2) z171 ((-1))))))
                  else
                    (bo (rc 37 [x1] t171) fun z181 t181 =>
                    bo (rc 29 [59] t181) fun z182 t182 =>
                    some (some (cadz (up2 t182 131 9 (lo (t182 131 9) (lsl 1 (ipl 12 (lin t182 z2))))), (cad (up2 t182 131 9 (lo (t182 131 9) (lsl 1 (ipl 12 (lin t182 z2))))) 407 (lin (up2 t182 131 9 (lo (t182 131 9) (lsl 1 (ipl 12 (lin t182 z2))))) z2) z171 z181)))))
                else
                  (if nkd t2 z2 ≠ 3 then
                    (some none)
                  else
                    (bo (rc 33 [] ((stp ((stp t2))))) fun z194 t194 =>
                    bo (rc 35 [z194] ((stp t194))) fun z196 t196 =>
                    if kkd t196 ≠ 91 then
                      (bo (rc 29 [59] t196) fun z199 t199 =>
                      some (some (cadz (up2 t199 131 9 (lo (t199 131 9) (lsl 1 (ipl 12 (lin t199 z2))))), (cad (up2 t199 131 9 (lo (t199 131 9) (lsl 1 (ipl 12 (lin t199 z2))))) 407 (lin (up2 t199 131 9 (lo (t199 131 9) (lsl 1 (ipl 12 (lin t199 z2))))) z2) z196 ((-1))))))
                    else
                      (bo (rc 37 [x1] t196) fun z206 t206 =>
                      bo (rc 29 [59] t206) fun z207 t207 =>
                      some (some (cadz (up2 t207 131 9 (lo (t207 131 9) (lsl 1 (ipl 12 (lin t207 z2))))), (cad (up2 t207 131 9 (lo (t207 131 9) (lsl 1 (ipl 12 (lin t207 z2))))) 407 (lin (up2 t207 131 9 (lo (t207 131 9) (lsl 1 (ipl 12 (lin t207 z2))))) z2) z196 z206)))))))
              else
                (if kkd ((stp t2)) = 91 then
                  (bo (rc 35 [z2] ((stp t2))) fun z215 t215 =>
                  if kkd t215 ≠ 91 then
                    (bo (rc 29 [61] t215) fun z218 t218 =>
                    bo (rc 40 [x1] t218) fun z219 t219 =>
                    bo (rc 29 [59] t219) fun z220 t220 =>
                    some (some (cadz t220, (cad t220 405 z215 z219 ((-1))))))
                  else
                    (bo (rc 37 [x1] t215) fun z222 t222 =>
                    bo (rc 29 [61] t222) fun z223 t223 =>
                    bo (rc 40 [x1] t223) fun z224 t224 =>
                    bo (rc 29 [59] t224) fun z225 t225 =>
                    some (some (cadz t225, (cad t225 405 z215 z224 z222)))))
                else
                  (if kkd ((stp t2)) ≠ 40 then
                    (some none)
                  else
                    (bo (rc 39 [nnm ((stp t2)) z2, x1] ((stp t2))) fun z235 t235 =>
                    bo (rc 29 [59] t235) fun z236 t236 =>
                    some (some (z235, t236))))))))))
    else
      (some none))
theorem cM71_k {x1 : Int} {t : tab} : Kn (fun rc => cM71 rc x1 t) := by
  unfold cM71
  exact (Kn_bo Kn_r fun _ _ => (Kn_if (Kn_if Kn_c (Kn_if Kn_c (Kn_if (Kn_if (Kn_bo Kn_r fun _ _ => (Kn_bo Kn_r fun _ _ => Kn_c)) (Kn_if Kn_c (Kn_bo Kn_r fun _ _ => (Kn_bo Kn_r fun _ _ => Kn_c)))) (Kn_if (Kn_bo Kn_r fun _ _ => (Kn_if (Kn_bo Kn_r fun _ _ => (Kn_bo Kn_r fun _ _ => (Kn_bo Kn_r fun _ _ => Kn_c))) (Kn_bo Kn_r fun _ _ => (Kn_bo Kn_r fun _ _ => (Kn_bo Kn_r fun _ _ => (Kn_bo Kn_r fun _ _ => Kn_c)))))) (Kn_if (Kn_if (Kn_bo Kn_r fun _ _ => (Kn_bo Kn_r fun _ _ => (Kn_if (Kn_bo Kn_r fun _ _ => Kn_c) (Kn_bo Kn_r fun _ _ => (Kn_bo Kn_r fun _ _ => Kn_c))))) (Kn_if Kn_c (Kn_bo Kn_r fun _ _ => (Kn_bo Kn_r fun _ _ => (Kn_if (Kn_bo Kn_r fun _ _ => Kn_c) (Kn_bo Kn_r fun _ _ => (Kn_bo Kn_r fun _ _ => Kn_c))))))) (Kn_if (Kn_bo Kn_r fun _ _ => (Kn_if (Kn_bo Kn_r fun _ _ => (Kn_bo Kn_r fun _ _ => (Kn_bo Kn_r fun _ _ => Kn_c))) (Kn_bo Kn_r fun _ _ => (Kn_bo Kn_r fun _ _ => (Kn_bo Kn_r fun _ _ => (Kn_bo Kn_r fun _ _ => Kn_c)))))) Kn_c)))))) (Kn_if (Kn_if Kn_c (Kn_if Kn_c (Kn_if (Kn_if (Kn_bo Kn_r fun _ _ => (Kn_bo Kn_r fun _ _ => Kn_c)) (Kn_if Kn_c (Kn_bo Kn_r fun _ _ => (Kn_bo Kn_r fun _ _ => Kn_c)))) (Kn_if (Kn_bo Kn_r fun _ _ => (Kn_if (Kn_bo Kn_r fun _ _ => (Kn_bo Kn_r fun _ _ => (Kn_bo Kn_r fun _ _ => Kn_c))) (Kn_bo Kn_r fun _ _ => (Kn_bo Kn_r fun _ _ => (Kn_bo Kn_r fun _ _ => (Kn_bo Kn_r fun _ _ => Kn_c)))))) (Kn_if (Kn_if (Kn_bo Kn_r fun _ _ => (Kn_bo Kn_r fun _ _ => (Kn_if (Kn_bo Kn_r fun _ _ => Kn_c) (Kn_bo Kn_r fun _ _ => (Kn_bo Kn_r fun _ _ => Kn_c))))) (Kn_if Kn_c (Kn_bo Kn_r fun _ _ => (Kn_bo Kn_r fun _ _ => (Kn_if (Kn_bo Kn_r fun _ _ => Kn_c) (Kn_bo Kn_r fun _ _ => (Kn_bo Kn_r fun _ _ => Kn_c))))))) (Kn_if (Kn_bo Kn_r fun _ _ => (Kn_if (Kn_bo Kn_r fun _ _ => (Kn_bo Kn_r fun _ _ => (Kn_bo Kn_r fun _ _ => Kn_c))) (Kn_bo Kn_r fun _ _ => (Kn_bo Kn_r fun _ _ => (Kn_bo Kn_r fun _ _ => (Kn_bo Kn_r fun _ _ => Kn_c)))))) (Kn_if Kn_c (Kn_bo Kn_r fun _ _ => (Kn_bo Kn_r fun _ _ => Kn_c))))))))) Kn_c)))
/-- parameters -/
def cM44 (rc : MRq) (x1 : Int) (t : tab) : RO :=
  bo (rc 32 [x1] t) fun z1 t1 =>
  rc 70 [x1, 1] t1
theorem cM44_k {x1 : Int} {t : tab} : Kn (fun rc => cM44 rc x1 t) := by
  unfold cM44
  exact (Kn_bo Kn_r fun _ _ => Kn_r)
/-- parameters, at 7 -/
def cM44_7 (rc : MRq) (y1 y2 : Int) (t : tab) : RO :=
  if 2000 ≤ y2 then
    (some (some (y2, t)))
  else
    (if kkd t ≠ 44 then
      (some (some (y2, t)))
    else
      (if 4 ≤ y2 then
        (some none)
      else
        (bo (rc 32 [y1] ((stp t))) fun z10 t10 =>
        rc 70 [y1, y2 + 1] t10)))
theorem cM44_7_k {y1 y2 : Int} {t : tab} : Kn (fun rc => cM44_7 rc y1 y2 t) := by
  unfold cM44_7
  exact (Kn_if Kn_c (Kn_if Kn_c (Kn_if Kn_c (Kn_bo Kn_r fun _ _ => Kn_r))))
/-- routineHead -/
def cM36 (rc : MRq) (x1 : Int) (t : tab) : RO :=
  bo (rc 31 [x1, 0] t) fun z1 t1 =>
  bo (rc 29 [40] t1) fun z6 t6 =>
  if kkd t6 ≠ 41 then
    (bo (rc 50 [t1 105 3] t6) fun z9 t9 =>
    bo (rc 29 [41] t9) fun z10 t10 =>
    if x1 ≠ 6 then
      (some (some (z1, up2 (up2 (up2 (up2 (up2 ((spm t10 z1 (t1 109 0) z9)) 131 13 z1) 131 14 0) 131 7 0) 131 8 0) 131 9 0)))
    else
      (some (some (z1, up2 (up2 (up2 (up2 (up2 ((spm t10 z1 (t1 109 0) z9)) 131 13 z1) 131 14 (t1 105 3)) 131 7 0) 131 8 0) 131 9 0))))
  else
    (bo (rc 29 [41] t6) fun z22 t22 =>
    if x1 ≠ 6 then
      (some (some (z1, up2 (up2 (up2 (up2 (up2 ((spm t22 z1 (t1 109 0) 0)) 131 13 z1) 131 14 0) 131 7 0) 131 8 0) 131 9 0)))
    else
      (some (some (z1, up2 (up2 (up2 (up2 (up2 ((spm t22 z1 (t1 109 0) 0)) 131 13 z1) 131 14 (t1 105 3)) 131 7 0) 131 8 0) 131 9 0))))
theorem cM36_k {x1 : Int} {t : tab} : Kn (fun rc => cM36 rc x1 t) := by
  unfold cM36
  exact (Kn_bo Kn_r fun _ _ => (Kn_bo Kn_r fun _ _ => (Kn_if (Kn_bo Kn_r fun _ _ => (Kn_bo Kn_r fun _ _ => (Kn_if Kn_c Kn_c))) (Kn_bo Kn_r fun _ _ => (Kn_if Kn_c Kn_c)))))
/-- routineFoot -/
def cM74 (rc : MRq) (x1 x2 : Int) (t : tab) : RO :=
  if x1 < 0 then
    (some (some (0, up2 (up2 t 131 13 ((-1))) 131 14 0)))
  else
    (if 12 ≤ x1 then
      (some (some (0, up2 (up2 t 131 13 ((-1))) 131 14 0)))
    else
      (some (some (0, up2 (up2 (up2 (up2 (up2 (up2 t 131 13 ((-1))) 131 14 0) 114 x1.toNat x2) 134 x1.toNat (lo (t 131 7) (lsl (lmi (lsl 1 (t 112 x1.toNat)) 1) (t 113 x1.toNat)))) 135 x1.toNat (lo (t 131 8) (lsl (lmi (lsl 1 (t 112 x1.toNat)) 1) (t 113 x1.toNat)))) 136 x1.toNat (t 131 9)))))
theorem cM74_k {x1 x2 : Int} {t : tab} : Kn (fun rc => cM74 rc x1 x2 t) := by
  unfold cM74
  exact (Kn_if Kn_c (Kn_if Kn_c Kn_c))
/-- funBody -/
def cM49 (rc : MRq) (x1 : Int) (t : tab) : RO :=
  bo (rc 29 [123] t) fun z1 t1 =>
  bo (rc 43 [x1] t1) fun z2 t2 =>
  bo (rc 44 [313, 0] t2) fun z3 t3 =>
  bo (rc 29 [313] t3) fun z5 t5 =>
  bo (rc 40 [0] t5) fun z6 t6 =>
  bo (rc 29 [59] ((lnk t6 (t3 131 15) z6))) fun z8 t8 =>
  bo (rc 29 [125] t8) fun z9 t9 =>
  if 0 ≤ z3 then
    (some (some (z3, (ncu t9 x1))))
  else
    (some (some (z6, (ncu t9 x1))))
theorem cM49_k {x1 : Int} {t : tab} : Kn (fun rc => cM49 rc x1 t) := by
  unfold cM49
  exact (Kn_bo Kn_r fun _ _ => (Kn_bo Kn_r fun _ _ => (Kn_bo Kn_r fun _ _ => (Kn_bo Kn_r fun _ _ => (Kn_bo Kn_r fun _ _ => (Kn_bo Kn_r fun _ _ => (Kn_bo Kn_r fun _ _ => (Kn_if Kn_c Kn_c))))))))
/-- shortDeclaration -/
def cM75 (rc : MRq) (x1 : Int) (t : tab) : RO :=
  if x1 = 300 then
    (bo (rc 31 [0, 0] t) fun z2 t2 =>
    bo (rc 29 [58] t2) fun z3 t3 =>
    bo (rc 30 [1, 16] t3) fun z4 t4 =>
    bo (rc 29 [59] ((sbi t4 z2 z4))) fun z6 t6 =>
    some (some (0, t6)))
  else
    (if x1 = 301 then
      (bo (rc 31 [0, 0] t) fun z8 t8 =>
      bo (rc 29 [59] ((sbi t8 z8 0))) fun z10 t10 =>
      some (some (0, t10)))
    else
      (if x1 = 302 then
        (bo (rc 31 [1, 0] t) fun z12 t12 =>
        bo (rc 29 [91] t12) fun z13 t13 =>
        bo (rc 30 [1, 64] t13) fun z15 t15 =>
        bo (rc 57 [z15] t15) fun z16 t16 =>
        if z16 ≠ 1 then
          (some none)
        else
          (bo (rc 29 [93] ((ssi t16 z12 z15))) fun z21 t21 =>
          bo (rc 29 [59] t21) fun z22 t22 =>
          some (some (0, t22))))
      else
        (if x1 = 303 then
          (bo (rc 31 [2, 0] t) fun z24 t24 =>
          bo (rc 29 [59] t24) fun z25 t25 =>
          some (some (0, t25)))
        else
          (if x1 = 304 then
            (bo (rc 31 [3, 0] t) fun z27 t27 =>
            bo (rc 29 [59] t27) fun z28 t28 =>
            some (some (0, t28)))
          else
            (bo (rc 31 [4, 0] t) fun z29 t29 =>
            bo (rc 29 [59] t29) fun z30 t30 =>
            some (some (0, t30)))))))
theorem cM75_k {x1 : Int} {t : tab} : Kn (fun rc => cM75 rc x1 t) := by
  unfold cM75
  exact (Kn_if (Kn_bo Kn_r fun _ _ => (Kn_bo Kn_r fun _ _ => (Kn_bo Kn_r fun _ _ => (Kn_bo Kn_r fun _ _ => Kn_c)))) (Kn_if (Kn_bo Kn_r fun _ _ => (Kn_bo Kn_r fun _ _ => Kn_c)) (Kn_if (Kn_bo Kn_r fun _ _ => (Kn_bo Kn_r fun _ _ => (Kn_bo Kn_r fun _ _ => (Kn_bo Kn_r fun _ _ => (Kn_if Kn_c (Kn_bo Kn_r fun _ _ => (Kn_bo Kn_r fun _ _ => Kn_c))))))) (Kn_if (Kn_bo Kn_r fun _ _ => (Kn_bo Kn_r fun _ _ => Kn_c)) (Kn_if (Kn_bo Kn_r fun _ _ => (Kn_bo Kn_r fun _ _ => Kn_c)) (Kn_bo Kn_r fun _ _ => (Kn_bo Kn_r fun _ _ => Kn_c)))))))
/-- program -/
def cM20 (rc : MRq) (t : tab) : RO :=
  bo (rc 13 [] (up2 (up2 (up2 (up2 ((ccl t)) 131 3 ((-2))) 131 6 0) 131 13 ((-1))) 131 14 0)) fun z6 t6 =>
  rc 71 [0] t6
theorem cM20_k {t : tab} : Kn (fun rc => cM20 rc t) := by
  unfold cM20
  exact (Kn_bo Kn_r fun _ _ => Kn_r)
/-- program, at 42 -/
def cM20_42 (rc : MRq) (y2 : Int) (t : tab) : RO :=
  if 2000 ≤ y2 then
    (bo (rc 45 [0, t 105 3] t) fun z3 t3 =>
    if kkd (up2 t3 99 13 z3) ≠ 3 then
      (some none)
    else
      (some (some (0, up2 t3 99 13 z3))))
  else
    (if kkd t < 300 then
      (bo (rc 45 [0, t 105 3] t) fun z14 t14 =>
      if kkd (up2 t14 99 13 z14) ≠ 3 then
        (some none)
      else
        (some (some (0, up2 t14 99 13 z14))))
    else
      (if 307 < kkd t then
        (bo (rc 45 [0, t 105 3] t) fun z25 t25 =>
        if kkd (up2 t25 99 13 z25) ≠ 3 then
          (some none)
        else
          (some (some (0, up2 t25 99 13 z25))))
      else
        (if kkd t = 306 then
          (if kkd t ≠ 307 then
            (bo (rc 51 [5] ((stp t))) fun z37 t37 =>
            bo (rc 45 [0, imi (t37 105 3) (prm t37 z37)] t37) fun z41 t41 =>
            bo (rc 52 [z37, z41] t41) fun z42 t42 =>
            rc 71 [y2 + 1] t42)
          else
            (bo (rc 51 [6] ((stp t))) fun z44 t44 =>
            bo (rc 53 [imi (t44 105 3) (prm t44 z44)] t44) fun z48 t48 =>
            bo (rc 52 [z44, z48] t48) fun z49 t49 =>
            rc 71 [y2 + 1] t49))
        else
          (if kkd t ≠ 307 then
            (bo (rc 54 [kkd t] ((stp t))) fun z52 t52 =>
            rc 71 [y2 + 1] t52)
          else
            (bo (rc 51 [6] ((stp t))) fun z54 t54 =>
            bo (rc 53 [imi (t54 105 3) (prm t54 z54)] t54) fun z58 t58 =>
            bo (rc 52 [z54, z58] t58) fun z59 t59 =>
            rc 71 [y2 + 1] t59)))))
theorem cM20_42_k {y2 : Int} {t : tab} : Kn (fun rc => cM20_42 rc y2 t) := by
  unfold cM20_42
  exact (Kn_if (Kn_bo Kn_r fun _ _ => (Kn_if Kn_c Kn_c)) (Kn_if (Kn_bo Kn_r fun _ _ => (Kn_if Kn_c Kn_c)) (Kn_if (Kn_bo Kn_r fun _ _ => (Kn_if Kn_c Kn_c)) (Kn_if (Kn_if (Kn_bo Kn_r fun _ _ => (Kn_bo Kn_r fun _ _ => (Kn_bo Kn_r fun _ _ => Kn_r))) (Kn_bo Kn_r fun _ _ => (Kn_bo Kn_r fun _ _ => (Kn_bo Kn_r fun _ _ => Kn_r)))) (Kn_if (Kn_bo Kn_r fun _ _ => Kn_r) (Kn_bo Kn_r fun _ _ => (Kn_bo Kn_r fun _ _ => (Kn_bo Kn_r fun _ _ => Kn_r))))))))
/-- fill -/
def cM23 (rc : MRq) (x1 : Int) (t : tab) : RO :=
  rc 72 [x1, 0, 6] t
theorem cM23_k {x1 : Int} {t : tab} : Kn (fun rc => cM23 rc x1 t) := by
  unfold cM23
  exact Kn_r
/-- fill, at 5 -/
def cM23_5 (rc : MRq) (y1 y2 y3 : Int) (t : tab) : RO :=
  if y3 ≤ y2 then
    (some (some (0, t)))
  else
    (rc 72 [y1, y2 + 1, y3] (up2 t 109 y2.toNat y1))
theorem cM23_5_k {y1 y2 y3 : Int} {t : tab} : Kn (fun rc => cM23_5 rc y1 y2 y3 t) := by
  unfold cM23_5
  exact (Kn_if Kn_c Kn_r)
/-- bitCount -/
def cM76 (rc : MRq) (x0 : Int) (t : tab) : RO :=
  some (some (ian (ipl (ipl (ian (ipl (ipl (ian (imi x0 (ian (iur x0 1) 1431655765)) 858993459) (ian (iur (imi x0 (ian (iur x0 1) 1431655765)) 2) 858993459)) (iur (ipl (ian (imi x0 (ian (iur x0 1) 1431655765)) 858993459) (ian (iur (imi x0 (ian (iur x0 1) 1431655765)) 2) 858993459)) 4)) 252645135) (iur (ian (ipl (ipl (ian (imi x0 (ian (iur x0 1) 1431655765)) 858993459) (ian (iur (imi x0 (ian (iur x0 1) 1431655765)) 2) 858993459)) (iur (ipl (ian (imi x0 (ian (iur x0 1) 1431655765)) 858993459) (ian (iur (imi x0 (ian (iur x0 1) 1431655765)) 2) 858993459)) 4)) 252645135) 8)) (iur (ipl (ian (ipl (ipl (ian (imi x0 (ian (iur x0 1) 1431655765)) 858993459) (ian (iur (imi x0 (ian (iur x0 1) 1431655765)) 2) 858993459)) (iur (ipl (ian (imi x0 (ian (iur x0 1) 1431655765)) 858993459) (ian (iur (imi x0 (ian (iur x0 1) 1431655765)) 2) 858993459)) 4)) 252645135) (iur (ian (ipl (ipl (ian (imi x0 (ian (iur x0 1) 1431655765)) 858993459) (ian (iur (imi x0 (ian (iur x0 1) 1431655765)) 2) 858993459)) (iur (ipl (ian (imi x0 (ian (iur x0 1) 1431655765)) 858993459) (ian (iur (imi x0 (ian (iur x0 1) 1431655765)) 2) 858993459)) 4)) 252645135) 8)) 16)) 63, t))
theorem cM76_k {x0 : Int} {t : tab} : Kn (fun rc => cM76 rc x0 t) := by
  unfold cM76
  exact Kn_c
def cL : List (MRq → List Int → tab → RO) := [
  fun rc xs t => cM26 rc (xs.getD 0 0) t,
  fun rc xs t => cM27 rc (xs.getD 0 0) t,
  fun rc xs t => cM30 rc (xs.getD 0 0) t,
  fun rc xs t => cM29 rc (xs.getD 0 0) t,
  fun rc xs t => cM34 rc t,
  fun rc xs t => cM40 rc t,
  fun rc xs t => cM38 rc t,
  fun rc xs t => cM35 rc t,
  fun rc xs t => cM33 rc (xs.getD 0 0) t,
  fun rc xs t => cM28 rc t,
  fun rc xs t => cM31 rc t,
  fun rc xs t => cM32 rc (xs.getD 0 0) t,
  fun rc xs t => cM25 rc t,
  fun rc xs t => cM24 rc t,
  fun rc xs t => cM39 rc (xs.getD 0 0) (xs.getD 1 0) t,
  fun rc xs t => cM42 rc (xs.getD 0 0) (xs.getD 1 0) (xs.getD 2 0) t,
  fun rc xs t => cM22 rc (xs.getD 0 0) t,
  fun rc xs t => cM62 rc (xs.getD 0 0) t,
  fun rc xs t => cM63 rc (xs.getD 0 0) t,
  fun rc xs t => cM21 rc t,
  fun rc xs t => cM67 rc (xs.getD 0 0) t,
  fun rc xs t => cM54 rc (xs.getD 0 0) (xs.getD 1 0) (xs.getD 2 0) (xs.getD 3 0) t,
  fun rc xs t => cM66 rc (xs.getD 0 0) (xs.getD 1 0) t,
  fun rc xs t => cM46 rc (xs.getD 0 0) (xs.getD 1 0) t,
  fun rc xs t => cM77 rc (xs.getD 0 0) (xs.getD 1 0) t,
  fun rc xs t => cM47 rc (xs.getD 0 0) (xs.getD 1 0) (xs.getD 2 0) t,
  fun rc xs t => cM48 rc (xs.getD 0 0) t,
  fun rc xs t => cM41 rc (xs.getD 0 0) t,
  fun rc xs t => cM68 rc (xs.getD 0 0) t,
  fun rc xs t => cM43 rc (xs.getD 0 0) t,
  fun rc xs t => cM59 rc (xs.getD 0 0) (xs.getD 1 0) t,
  fun rc xs t => cM37 rc (xs.getD 0 0) (xs.getD 1 0) t,
  fun rc xs t => cM45 rc (xs.getD 0 0) t,
  fun rc xs t => cM61 rc t,
  fun rc xs t => cM73 rc (xs.getD 0 0) t,
  fun rc xs t => cM72 rc (xs.getD 0 0) t,
  fun rc xs t => cM69 rc (xs.getD 0 0) (xs.getD 1 0) (xs.getD 2 0) t,
  fun rc xs t => cM64 rc (xs.getD 0 0) t,
  fun rc xs t => cM56 rc (xs.getD 0 0) t,
  fun rc xs t => cM65 rc (xs.getD 0 0) (xs.getD 1 0) t,
  fun rc xs t => cM57 rc (xs.getD 0 0) t,
  fun rc xs t => cM58 rc (xs.getD 0 0) t,
  fun rc xs t => cM60 rc (xs.getD 0 0) t,
  fun rc xs t => cM50 rc (xs.getD 0 0) t,
  fun rc xs t => cM51 rc (xs.getD 0 0) (xs.getD 1 0) t,
  fun rc xs t => cM53 rc (xs.getD 0 0) (xs.getD 1 0) t,
  fun rc xs t => cM52 rc (xs.getD 0 0) t,
  fun rc xs t => cM55 rc (xs.getD 0 0) t,
  fun rc xs t => cM70 rc (xs.getD 0 0) t,
  fun rc xs t => cM71 rc (xs.getD 0 0) t,
  fun rc xs t => cM44 rc (xs.getD 0 0) t,
  fun rc xs t => cM36 rc (xs.getD 0 0) t,
  fun rc xs t => cM74 rc (xs.getD 0 0) (xs.getD 1 0) t,
  fun rc xs t => cM49 rc (xs.getD 0 0) t,
  fun rc xs t => cM75 rc (xs.getD 0 0) t,
  fun rc xs t => cM20 rc t,
  fun rc xs t => cM23 rc (xs.getD 0 0) t,
  fun rc xs t => cM76 rc (xs.getD 0 0) t,
  fun rc xs t => cM28_7 rc (xs.getD 0 0) (xs.getD 1 0) t,
  fun rc xs t => cM28_95 rc (xs.getD 0 0) (xs.getD 1 0) t,
  fun rc xs t => cM31_2 rc (xs.getD 0 0) t,
  fun rc xs t => cM25_99999 rc t,
  fun rc xs t => cM24_12 rc (xs.getD 0 0) t,
  fun rc xs t => cM39_10 rc (xs.getD 0 0) (xs.getD 1 0) (xs.getD 2 0) t,
  fun rc xs t => cM69_3 rc (xs.getD 0 0) (xs.getD 1 0) (xs.getD 2 0) t,
  fun rc xs t => cM65_36 rc (xs.getD 0 0) (xs.getD 1 0) (xs.getD 2 0) (xs.getD 3 0) (xs.getD 4 0) t,
  fun rc xs t => cM57_26 rc (xs.getD 0 0) (xs.getD 1 0) (xs.getD 2 0) (xs.getD 3 0) (xs.getD 4 0) t,
  fun rc xs t => cM50_2 rc (xs.getD 0 0) (xs.getD 1 0) t,
  fun rc xs t => cM51_8 rc (xs.getD 0 0) (xs.getD 1 0) (xs.getD 2 0) (xs.getD 3 0) (xs.getD 4 0) t,
  fun rc xs t => cM70_53 rc (xs.getD 0 0) (xs.getD 1 0) (xs.getD 2 0) (xs.getD 3 0) (xs.getD 4 0) (xs.getD 5 0) (xs.getD 6 0) (xs.getD 7 0) (xs.getD 8 0) (xs.getD 9 0) (xs.getD 10 0) (xs.getD 11 0) t,
  fun rc xs t => cM44_7 rc (xs.getD 0 0) (xs.getD 1 0) t,
  fun rc xs t => cM20_42 rc (xs.getD 0 0) t,
  fun rc xs t => cM23_5 rc (xs.getD 0 0) (xs.getD 1 0) (xs.getD 2 0) t]
def cB (rc : MRq) : MRq := fun i xs t => match cL[i]? with
  | some F => F rc xs t
  | none => none
theorem cL_k : ∀ F ∈ cL, ∀ xs t, Kn (fun rc => F rc xs t) := by
  unfold cL
  simp only [List.forall_mem_cons]
  exact ⟨fun _ _ => cM26_k, fun _ _ => cM27_k, fun _ _ => cM30_k, fun _ _ => cM29_k, fun _ _ => cM34_k, fun _ _ => cM40_k, fun _ _ => cM38_k, fun _ _ => cM35_k, fun _ _ => cM33_k, fun _ _ => cM28_k, fun _ _ => cM31_k, fun _ _ => cM32_k, fun _ _ => cM25_k, fun _ _ => cM24_k, fun _ _ => cM39_k, fun _ _ => cM42_k, fun _ _ => cM22_k, fun _ _ => cM62_k, fun _ _ => cM63_k, fun _ _ => cM21_k, fun _ _ => cM67_k, fun _ _ => cM54_k, fun _ _ => cM66_k, fun _ _ => cM46_k, fun _ _ => cM77_k, fun _ _ => cM47_k, fun _ _ => cM48_k, fun _ _ => cM41_k, fun _ _ => cM68_k, fun _ _ => cM43_k, fun _ _ => cM59_k, fun _ _ => cM37_k, fun _ _ => cM45_k, fun _ _ => cM61_k, fun _ _ => cM73_k, fun _ _ => cM72_k, fun _ _ => cM69_k, fun _ _ => cM64_k, fun _ _ => cM56_k, fun _ _ => cM65_k, fun _ _ => cM57_k, fun _ _ => cM58_k, fun _ _ => cM60_k, fun _ _ => cM50_k, fun _ _ => cM51_k, fun _ _ => cM53_k, fun _ _ => cM52_k, fun _ _ => cM55_k, fun _ _ => cM70_k, fun _ _ => cM71_k, fun _ _ => cM44_k, fun _ _ => cM36_k, fun _ _ => cM74_k, fun _ _ => cM49_k, fun _ _ => cM75_k, fun _ _ => cM20_k, fun _ _ => cM23_k, fun _ _ => cM76_k, fun _ _ => cM28_7_k, fun _ _ => cM28_95_k, fun _ _ => cM31_2_k, fun _ _ => cM25_99999_k, fun _ _ => cM24_12_k, fun _ _ => cM39_10_k, fun _ _ => cM69_3_k, fun _ _ => cM65_36_k, fun _ _ => cM57_26_k, fun _ _ => cM50_2_k, fun _ _ => cM51_8_k, fun _ _ => cM70_53_k, fun _ _ => cM44_7_k, fun _ _ => cM20_42_k, fun _ _ => cM23_5_k, fun F hF => absurd hF (by simp)⟩
theorem cB_k (i : Nat) (xs : List Int) (t : tab) : Kn (fun rc => cB rc i xs t) := by
  unfold cB
  cases e : cL[i]? with
  | none => exact Kn_c
  | some F => exact cL_k F (List.mem_of_getElem? e) xs t
noncomputable def cG : MRq := lim cB
theorem cG_26 {t : tab} {a0 : Int} : cG 0 [a0] t = cM26 cG a0 t := lim_eq cB_k 0 _ t
theorem cG_27 {t : tab} {a0 : Int} : cG 1 [a0] t = cM27 cG a0 t := lim_eq cB_k 1 _ t
theorem cG_30 {t : tab} {a0 : Int} : cG 2 [a0] t = cM30 cG a0 t := lim_eq cB_k 2 _ t
theorem cG_29 {t : tab} {a0 : Int} : cG 3 [a0] t = cM29 cG a0 t := lim_eq cB_k 3 _ t
theorem cG_34 {t : tab} : cG 4 [] t = cM34 cG t := lim_eq cB_k 4 _ t
theorem cG_40 {t : tab} : cG 5 [] t = cM40 cG t := lim_eq cB_k 5 _ t
theorem cG_38 {t : tab} : cG 6 [] t = cM38 cG t := lim_eq cB_k 6 _ t
theorem cG_35 {t : tab} : cG 7 [] t = cM35 cG t := lim_eq cB_k 7 _ t
theorem cG_33 {t : tab} {a0 : Int} : cG 8 [a0] t = cM33 cG a0 t := lim_eq cB_k 8 _ t
theorem cG_28 {t : tab} : cG 9 [] t = cM28 cG t := lim_eq cB_k 9 _ t
theorem cG_31 {t : tab} : cG 10 [] t = cM31 cG t := lim_eq cB_k 10 _ t
theorem cG_32 {t : tab} {a0 : Int} : cG 11 [a0] t = cM32 cG a0 t := lim_eq cB_k 11 _ t
theorem cG_25 {t : tab} : cG 12 [] t = cM25 cG t := lim_eq cB_k 12 _ t
theorem cG_24 {t : tab} : cG 13 [] t = cM24 cG t := lim_eq cB_k 13 _ t
theorem cG_39 {t : tab} {a0 a1 : Int} : cG 14 [a0, a1] t = cM39 cG a0 a1 t := lim_eq cB_k 14 _ t
theorem cG_42 {t : tab} {a0 a1 a2 : Int} : cG 15 [a0, a1, a2] t = cM42 cG a0 a1 a2 t := lim_eq cB_k 15 _ t
theorem cG_22 {t : tab} {a0 : Int} : cG 16 [a0] t = cM22 cG a0 t := lim_eq cB_k 16 _ t
theorem cG_62 {t : tab} {a0 : Int} : cG 17 [a0] t = cM62 cG a0 t := lim_eq cB_k 17 _ t
theorem cG_63 {t : tab} {a0 : Int} : cG 18 [a0] t = cM63 cG a0 t := lim_eq cB_k 18 _ t
theorem cG_21 {t : tab} : cG 19 [] t = cM21 cG t := lim_eq cB_k 19 _ t
theorem cG_67 {t : tab} {a0 : Int} : cG 20 [a0] t = cM67 cG a0 t := lim_eq cB_k 20 _ t
theorem cG_54 {t : tab} {a0 a1 a2 a3 : Int} : cG 21 [a0, a1, a2, a3] t = cM54 cG a0 a1 a2 a3 t := lim_eq cB_k 21 _ t
theorem cG_66 {t : tab} {a0 a1 : Int} : cG 22 [a0, a1] t = cM66 cG a0 a1 t := lim_eq cB_k 22 _ t
theorem cG_46 {t : tab} {a0 a1 : Int} : cG 23 [a0, a1] t = cM46 cG a0 a1 t := lim_eq cB_k 23 _ t
theorem cG_77 {t : tab} {a0 a1 : Int} : cG 24 [a0, a1] t = cM77 cG a0 a1 t := lim_eq cB_k 24 _ t
theorem cG_47 {t : tab} {a0 a1 a2 : Int} : cG 25 [a0, a1, a2] t = cM47 cG a0 a1 a2 t := lim_eq cB_k 25 _ t
theorem cG_48 {t : tab} {a0 : Int} : cG 26 [a0] t = cM48 cG a0 t := lim_eq cB_k 26 _ t
theorem cG_41 {t : tab} {a0 : Int} : cG 27 [a0] t = cM41 cG a0 t := lim_eq cB_k 27 _ t
theorem cG_68 {t : tab} {a0 : Int} : cG 28 [a0] t = cM68 cG a0 t := lim_eq cB_k 28 _ t
theorem cG_43 {t : tab} {a0 : Int} : cG 29 [a0] t = cM43 cG a0 t := lim_eq cB_k 29 _ t
theorem cG_59 {t : tab} {a0 a1 : Int} : cG 30 [a0, a1] t = cM59 cG a0 a1 t := lim_eq cB_k 30 _ t
theorem cG_37 {t : tab} {a0 a1 : Int} : cG 31 [a0, a1] t = cM37 cG a0 a1 t := lim_eq cB_k 31 _ t
theorem cG_45 {t : tab} {a0 : Int} : cG 32 [a0] t = cM45 cG a0 t := lim_eq cB_k 32 _ t
theorem cG_61 {t : tab} : cG 33 [] t = cM61 cG t := lim_eq cB_k 33 _ t
theorem cG_73 {t : tab} {a0 : Int} : cG 34 [a0] t = cM73 cG a0 t := lim_eq cB_k 34 _ t
theorem cG_72 {t : tab} {a0 : Int} : cG 35 [a0] t = cM72 cG a0 t := lim_eq cB_k 35 _ t
theorem cG_69 {t : tab} {a0 a1 a2 : Int} : cG 36 [a0, a1, a2] t = cM69 cG a0 a1 a2 t := lim_eq cB_k 36 _ t
theorem cG_64 {t : tab} {a0 : Int} : cG 37 [a0] t = cM64 cG a0 t := lim_eq cB_k 37 _ t
theorem cG_56 {t : tab} {a0 : Int} : cG 38 [a0] t = cM56 cG a0 t := lim_eq cB_k 38 _ t
theorem cG_65 {t : tab} {a0 a1 : Int} : cG 39 [a0, a1] t = cM65 cG a0 a1 t := lim_eq cB_k 39 _ t
theorem cG_57 {t : tab} {a0 : Int} : cG 40 [a0] t = cM57 cG a0 t := lim_eq cB_k 40 _ t
theorem cG_58 {t : tab} {a0 : Int} : cG 41 [a0] t = cM58 cG a0 t := lim_eq cB_k 41 _ t
theorem cG_60 {t : tab} {a0 : Int} : cG 42 [a0] t = cM60 cG a0 t := lim_eq cB_k 42 _ t
theorem cG_50 {t : tab} {a0 : Int} : cG 43 [a0] t = cM50 cG a0 t := lim_eq cB_k 43 _ t
theorem cG_51 {t : tab} {a0 a1 : Int} : cG 44 [a0, a1] t = cM51 cG a0 a1 t := lim_eq cB_k 44 _ t
theorem cG_53 {t : tab} {a0 a1 : Int} : cG 45 [a0, a1] t = cM53 cG a0 a1 t := lim_eq cB_k 45 _ t
theorem cG_52 {t : tab} {a0 : Int} : cG 46 [a0] t = cM52 cG a0 t := lim_eq cB_k 46 _ t
theorem cG_55 {t : tab} {a0 : Int} : cG 47 [a0] t = cM55 cG a0 t := lim_eq cB_k 47 _ t
theorem cG_70 {t : tab} {a0 : Int} : cG 48 [a0] t = cM70 cG a0 t := lim_eq cB_k 48 _ t
theorem cG_71 {t : tab} {a0 : Int} : cG 49 [a0] t = cM71 cG a0 t := lim_eq cB_k 49 _ t
theorem cG_44 {t : tab} {a0 : Int} : cG 50 [a0] t = cM44 cG a0 t := lim_eq cB_k 50 _ t
theorem cG_36 {t : tab} {a0 : Int} : cG 51 [a0] t = cM36 cG a0 t := lim_eq cB_k 51 _ t
theorem cG_74 {t : tab} {a0 a1 : Int} : cG 52 [a0, a1] t = cM74 cG a0 a1 t := lim_eq cB_k 52 _ t
theorem cG_49 {t : tab} {a0 : Int} : cG 53 [a0] t = cM49 cG a0 t := lim_eq cB_k 53 _ t
theorem cG_75 {t : tab} {a0 : Int} : cG 54 [a0] t = cM75 cG a0 t := lim_eq cB_k 54 _ t
theorem cG_20 {t : tab} : cG 55 [] t = cM20 cG t := lim_eq cB_k 55 _ t
theorem cG_23 {t : tab} {a0 : Int} : cG 56 [a0] t = cM23 cG a0 t := lim_eq cB_k 56 _ t
theorem cG_76 {t : tab} {a0 : Int} : cG 57 [a0] t = cM76 cG a0 t := lim_eq cB_k 57 _ t
theorem cG_28_7 {t : tab} {a0 a1 : Int} : cG 58 [a0, a1] t = cM28_7 cG a0 a1 t := lim_eq cB_k 58 _ t
theorem cG_28_95 {t : tab} {a0 a1 : Int} : cG 59 [a0, a1] t = cM28_95 cG a0 a1 t := lim_eq cB_k 59 _ t
theorem cG_31_2 {t : tab} {a0 : Int} : cG 60 [a0] t = cM31_2 cG a0 t := lim_eq cB_k 60 _ t
theorem cG_25_99999 {t : tab} : cG 61 [] t = cM25_99999 cG t := lim_eq cB_k 61 _ t
theorem cG_24_12 {t : tab} {a0 : Int} : cG 62 [a0] t = cM24_12 cG a0 t := lim_eq cB_k 62 _ t
theorem cG_39_10 {t : tab} {a0 a1 a2 : Int} : cG 63 [a0, a1, a2] t = cM39_10 cG a0 a1 a2 t := lim_eq cB_k 63 _ t
theorem cG_69_3 {t : tab} {a0 a1 a2 : Int} : cG 64 [a0, a1, a2] t = cM69_3 cG a0 a1 a2 t := lim_eq cB_k 64 _ t
theorem cG_65_36 {t : tab} {a0 a1 a2 a3 a4 : Int} : cG 65 [a0, a1, a2, a3, a4] t = cM65_36 cG a0 a1 a2 a3 a4 t := lim_eq cB_k 65 _ t
theorem cG_57_26 {t : tab} {a0 a1 a2 a3 a4 : Int} : cG 66 [a0, a1, a2, a3, a4] t = cM57_26 cG a0 a1 a2 a3 a4 t := lim_eq cB_k 66 _ t
theorem cG_50_2 {t : tab} {a0 a1 : Int} : cG 67 [a0, a1] t = cM50_2 cG a0 a1 t := lim_eq cB_k 67 _ t
theorem cG_51_8 {t : tab} {a0 a1 a2 a3 a4 : Int} : cG 68 [a0, a1, a2, a3, a4] t = cM51_8 cG a0 a1 a2 a3 a4 t := lim_eq cB_k 68 _ t
theorem cG_70_53 {t : tab} {a0 a1 a2 a3 a4 a5 a6 a7 a8 a9 a10 a11 : Int} : cG 69 [a0, a1, a2, a3, a4, a5, a6, a7, a8, a9, a10, a11] t = cM70_53 cG a0 a1 a2 a3 a4 a5 a6 a7 a8 a9 a10 a11 t := lim_eq cB_k 69 _ t
theorem cG_44_7 {t : tab} {a0 a1 : Int} : cG 70 [a0, a1] t = cM44_7 cG a0 a1 t := lim_eq cB_k 70 _ t
theorem cG_20_42 {t : tab} {a0 : Int} : cG 71 [a0] t = cM20_42 cG a0 t := lim_eq cB_k 71 _ t
theorem cG_23_5 {t : tab} {a0 a1 a2 : Int} : cG 72 [a0, a1, a2] t = cM23_5 cG a0 a1 a2 t := lim_eq cB_k 72 _ t
def cT26 (K d C : Nat) : Prop := ∀ (s : rS) (t : tab) (x1 : Int), EE cP C t s → i32 x1 → pcr K d 26 [.ref 97, vi x1] s (MQx cP C 1 (cG 0 [x1] t))
def cT27 (K d C : Nat) : Prop := ∀ (s : rS) (t : tab) (x0 : Int), EE cP C t s → i32 x0 → pcr K d 27 [vi x0] s (MQx cP C 3 (cG 1 [x0] t))
def cT30 (K d C : Nat) : Prop := ∀ (s : rS) (t : tab) (x0 : Int), EE cP C t s → i32 x0 → pcr K d 30 [vi x0] s (MQx cP C 3 (cG 2 [x0] t))
def cT29 (K d C : Nat) : Prop := ∀ (s : rS) (t : tab) (x0 : Int), EE cP C t s → i32 x0 → pcr K d 29 [vi x0] s (MQx cP C 3 (cG 3 [x0] t))
def cT34 (K d C : Nat) : Prop := ∀ (s : rS) (t : tab) , EE cQ C t s → pcr K d 34 [.ref 137] s (MQx cQ C 1 (cG 4 [] t))
def cT40 (K d C : Nat) : Prop := ∀ (s : rS) (t : tab) , EE cQ C t s → pcr K d 40 [.ref 137] s (MQx cQ C 5 (cG 5 [] t))
def cT38 (K d C : Nat) : Prop := ∀ (s : rS) (t : tab) , EE cQ C t s → pcr K d 38 [.ref 137] s (MQx cQ C 2 (cG 6 [] t))
def cT35 (K d C : Nat) : Prop := ∀ (s : rS) (t : tab) , EE cQ C t s → pcr K d 35 [.ref 137] s (MQx cQ C 0 (cG 7 [] t))
def cT33 (K d C : Nat) : Prop := ∀ (s : rS) (t : tab) (x0 : Int), EE cP C t s → i32 x0 → pcr K d 33 [vi x0] s (MQx cP C 3 (cG 8 [x0] t))
def cT28 (K d C : Nat) : Prop := ∀ (s : rS) (t : tab) , EE cP C t s → pcr K d 28 [.ref 137] s (MQx cP C 1 (cG 9 [] t))
def cU28_0 (N K d C : Nat) : Prop := ∀ (s : rS) (t : tab) (y2 : Int) (y1 : Int), EE cP C t s → i64 y2 → i32 y1 → pr N K d tb_M28 7 [(2, vl y2), (1, vi y1), (0, .ref 137)] [] s (MQx cP C 1 (cG 58 [y1, y2] t))
def cU28_1 (N K d C : Nat) : Prop := ∀ (s : rS) (t : tab) (y4 : Int) (y2 : Int) (y1 : Int), EE cP C t s → i32 y4 → i64 y2 → i32 y1 → pr N K d tb_M28 95 [(4, vi y4), (2, vl y2), (1, vi y1), (0, .ref 137)] [] s (MQx cP C 1 (cG 59 [y2, y4] t))
def cA28 (N K d C : Nat) : Prop := cU28_0 N K d C ∧ cU28_1 N K d C
def cT31 (K d C : Nat) : Prop := ∀ (s : rS) (t : tab) , EE cP C t s → pcr K d 31 [.ref 137] s (MQx cP C 1 (cG 10 [] t))
def cU31_0 (N K d C : Nat) : Prop := ∀ (s : rS) (t : tab) (y1 : Int), EE cP C t s → i64 y1 → pr N K d tb_M31 2 [(1, vl y1), (0, .ref 137)] [] s (MQx cP C 1 (cG 60 [y1] t))
def cA31 (N K d C : Nat) : Prop := cU31_0 N K d C
def cT32 (K d C : Nat) : Prop := ∀ (s : rS) (t : tab) (x1 : Int), EE cP C t s → i32 x1 → pcr K d 32 [.ref 137, vi x1] s (MQx cP C 1 (cG 11 [x1] t))
def cT25 (K d C : Nat) : Prop := ∀ (s : rS) (t : tab) , EE cP C t s → pcr K d 25 [.ref 137] s (MQx cP C 1 (cG 12 [] t))
def cU25_0 (N K d C : Nat) : Prop := ∀ (s : rS) (t : tab) , EE cP C t s → pr N K d tb_M25 0 [(0, .ref 137)] [] s (MQx cP C 1 (cG 61 [] t))
def cA25 (N K d C : Nat) : Prop := cU25_0 N K d C
def cT24 (K d C : Nat) : Prop := ∀ (s : rS) (t : tab) , EE cP C t s → pcr K d 24 [.ref 137] s (MQx cP C 0 (cG 13 [] t))
def cU24_0 (N K d C : Nat) : Prop := ∀ (s : rS) (t : tab) (y1 : Int), EE cP C t s → i32 y1 → pr N K d tb_M24 12 [(1, vi y1), (0, .ref 137)] [] s (MQx cP C 0 (cG 62 [y1] t))
def cA24 (N K d C : Nat) : Prop := cU24_0 N K d C
def cT39 (K d C : Nat) : Prop := ∀ (s : rS) (t : tab) (x1 : Int) (x3 : Int), EE cQ C t s → i64 x1 → i32 x3 → pcr K d 39 [.ref (C + 6), vl x1, vi x3] s (MQx cQ C 1 (cG 14 [x1, x3] t))
def cU39_0 (N K d C : Nat) : Prop := ∀ (s : rS) (t : tab) (y5 : Int) (y4 : Int) (y1 : Int) (y3 : Int), EE cQ C t s → i32 y5 → i32 y4 → i64 y1 → i32 y3 → pr N K d tb_M39 10 [(5, vi y5), (4, vi y4), (0, .ref (C + 6)), (1, vl y1), (3, vi y3)] [] s (MQx cQ C 1 (cG 63 [y1, y4, y5] t))
def cA39 (N K d C : Nat) : Prop := cU39_0 N K d C
def cT42 (K d C : Nat) : Prop := ∀ (s : rS) (t : tab) (x1 : Int) (x3 : Int) (x4 : Int), EE cQ C t s → i64 x1 → i32 x3 → i32 x4 → pcr K d 42 [.ref (C + 6), vl x1, vi x3, vi x4] s (MQx cQ C 0 (cG 15 [x1, x3, x4] t))
def cT22 (K d C : Nat) : Prop := ∀ (s : rS) (t : tab) (x1 : Int), EE cQ C t s → i32 x1 → pcr K d 22 [.ref (C + 6), vi x1] s (MQx cQ C 0 (cG 16 [x1] t))
def cT62 (K d C : Nat) : Prop := ∀ (s : rS) (t : tab) (x1 : Int), EE cQ C t s → i32 x1 → pcr K d 62 [.ref (C + 6), vi x1] s (MQx cQ C 1 (cG 17 [x1] t))
def cT63 (K d C : Nat) : Prop := ∀ (s : rS) (t : tab) (x1 : Int), EE cQ C t s → i32 x1 → pcr K d 63 [.ref (C + 6), vi x1] s (MQx cQ C 1 (cG 18 [x1] t))
def cT21 (K d C : Nat) : Prop := ∀ (s : rS) (t : tab) , EE cQ C t s → pcr K d 21 [.ref C] s (MQx cQ C 0 (cG 19 [] t))
def cT67 (K d C : Nat) : Prop := ∀ (s : rS) (t : tab) (x1 : Int), EE cQ C t s → i32 x1 → pcr K d 67 [.ref C, vi x1] s (MQx cQ C 3 (cG 20 [x1] t))
def cT54 (K d C : Nat) : Prop := ∀ (s : rS) (t : tab) (x1 : Int) (x2 : Int) (x3 : Int) (x4 : Int), EE cQ C t s → i32 x1 → i32 x2 → i32 x3 → i32 x4 → pcr K d 54 [.ref C, vi x1, vi x2, vi x3, vi x4] s (MQx cQ C 1 (cG 21 [x1, x2, x3, x4] t))
def cT66 (K d C : Nat) : Prop := ∀ (s : rS) (t : tab) (x1 : Int) (x2 : Int), EE cQ C t s → i32 x1 → i32 x2 → pcr K d 66 [.ref C, vi x1, vi x2] s (MQx cQ C 0 (cG 22 [x1, x2] t))
def cT46 (K d C : Nat) : Prop := ∀ (s : rS) (t : tab) (x1 : Int) (x2 : Int), EE cQ C t s → i32 x1 → i32 x2 → pcr K d 46 [.ref C, vi x1, vi x2] s (MQx cQ C 0 (cG 23 [x1, x2] t))
def cT77 (K d C : Nat) : Prop := ∀ (s : rS) (t : tab) (x1 : Int) (x2 : Int), EE cQ C t s → i32 x1 → i32 x2 → pcr K d 77 [.ref C, vi x1, vi x2] s (MQx cQ C 0 (cG 24 [x1, x2] t))
def cT47 (K d C : Nat) : Prop := ∀ (s : rS) (t : tab) (x1 : Int) (x2 : Int) (x3 : Int), EE cQ C t s → i32 x1 → i32 x2 → i32 x3 → pcr K d 47 [.ref C, vi x1, vi x2, vi x3] s (MQx cQ C 0 (cG 25 [x1, x2, x3] t))
def cT48 (K d C : Nat) : Prop := ∀ (s : rS) (t : tab) (x1 : Int), EE cQ C t s → i32 x1 → pcr K d 48 [.ref C, vi x1] s (MQx cQ C 1 (cG 26 [x1] t))
def cT41 (K d C : Nat) : Prop := ∀ (s : rS) (t : tab) (x1 : Int) (x2 : Int), EE cQ C t s → 0 ≤ x1 ∧ x1 ≤ 1 → 0 ≤ x2 ∧ x2 ≤ 2147483647 → pcr K d 41 [.ref 131, vi x1, vi x2] s (MQx cQ C 0 (cG 27 [x1] t))
def cT68 (K d C : Nat) : Prop := ∀ (s : rS) (t : tab) (x0 : Int), EE cQ C t s → i32 x0 → pcr K d 68 [vi x0] s (MQx cQ C 1 (cG 28 [x0] t))
def cT43 (K d C : Nat) : Prop := ∀ (s : rS) (t : tab) (x1 : Int), EE cQ C t s → i32 x1 → pcr K d 43 [.ref 131, vi x1] s (MQx cQ C 0 (cG 29 [x1] t))
def cT59 (K d C : Nat) : Prop := ∀ (s : rS) (t : tab) (x1 : Int) (x2 : Int), EE cQ C t s → i32 x1 → i32 x2 → pcr K d 59 [.ref 131, vi x1, vi x2] s (MQx cQ C 1 (cG 30 [x1, x2] t))
def cT37 (K d C : Nat) : Prop := ∀ (s : rS) (t : tab) (x1 : Int) (x2 : Int), EE cQ C t s → i32 x1 → i32 x2 → pcr K d 37 [.ref 131, vi x1, vi x2] s (MQx cQ C 1 (cG 31 [x1, x2] t))
def cT45 (K d C : Nat) : Prop := ∀ (s : rS) (t : tab) (x1 : Int), EE cQ C t s → i32 x1 → pcr K d 45 [.ref 131, vi x1] s (MQx cQ C 0 (cG 32 [x1] t))
def cT61 (K d C : Nat) : Prop := ∀ (s : rS) (t : tab) , EE cQ C t s → pcr K d 61 [.ref 131] s (MQx cQ C 1 (cG 33 [] t))
def cT73 (K d C : Nat) : Prop := ∀ (s : rS) (t : tab) (x1 : Int), EE cQ C t s → i32 x1 → pcr K d 73 [.ref 131, vi x1] s (MQx cQ C 1 (cG 34 [x1] t))
def cT72 (K d C : Nat) : Prop := ∀ (s : rS) (t : tab) (x1 : Int) (x2 : Int), EE cQ C t s → i32 x1 → 0 ≤ x2 ∧ x2 ≤ 2147483647 → pcr K d 72 [.ref 131, vi x1, vi x2] s (MQx cQ C 1 (cG 35 [x1] t))
def cT69 (K d C : Nat) : Prop := ∀ (s : rS) (t : tab) (x1 : Int) (x2 : Int) (x3 : Int), EE cQ C t s → i32 x1 → i32 x2 → i32 x3 → pcr K d 69 [.ref 131, vi x1, vi x2, vi x3] s (MQx cQ C 1 (cG 36 [x1, x2, x3] t))
def cU69_0 (N K d C : Nat) : Prop := ∀ (s : rS) (t : tab) (y4 : Int) (y1 : Int) (y2 : Int) (y3 : Int), EE cQ C t s → i32 y4 → i32 y1 → i32 y2 → i32 y3 → pr N K d tb_M69 3 [(4, vi y4), (0, .ref 131), (1, vi y1), (2, vi y2), (3, vi y3)] [] s (MQx cQ C 1 (cG 64 [y1, y2, y4] t))
def cA69 (N K d C : Nat) : Prop := cU69_0 N K d C
def cT64 (K d C : Nat) : Prop := ∀ (s : rS) (t : tab) (x1 : Int), EE cQ C t s → i32 x1 → pcr K d 64 [.ref 131, vi x1] s (MQx cQ C 1 (cG 37 [x1] t))
def cT56 (K d C : Nat) : Prop := ∀ (s : rS) (t : tab) (x1 : Int), EE cQ C t s → i32 x1 → pcr K d 56 [.ref 131, vi x1] s (MQx cQ C 1 (cG 38 [x1] t))
def cT65 (K d C : Nat) : Prop := ∀ (s : rS) (t : tab) (x1 : Int) (x2 : Int) (x3 : Int), EE cQ C t s → i32 x1 → 0 ≤ x2 ∧ x2 ≤ 2147483647 → i32 x3 → pcr K d 65 [.ref 131, vi x1, vi x2, vi x3] s (MQx cQ C 1 (cG 39 [x1, x3] t))
def cU65_0 (N K d C : Nat) : Prop := ∀ (s : rS) (t : tab) (y6 : Int) (y5 : Int) (y4 : Int) (y1 : Int) (y2 : Int) (y3 : Int), EE cQ C t s → i32 y6 → i32 y5 → i32 y4 → i32 y1 → 0 ≤ y2 ∧ y2 ≤ 2147483647 → i32 y3 → pr N K d tb_M65 36 [(6, vi y6), (5, vi y5), (4, vi y4), (0, .ref 131), (1, vi y1), (2, vi y2), (3, vi y3)] [] s (MQx cQ C 1 (cG 65 [y1, y3, y4, y5, y6] t))
def cU65_1 (N K d C : Nat) : Prop := ∀ (s : rS) (t : tab) (y6 : Int) (y5 : Int) (y4 : Int) (y7 : Int) (y1 : Int) (y2 : Int) (y3 : Int), EE cQ C t s → i32 y6 → i32 y5 → i32 y4 → i32 y7 → i32 y1 → 0 ≤ y2 ∧ y2 ≤ 2147483647 → i32 y3 → pr N K d tb_M65 36 [(6, vi y6), (5, vi y5), (4, vi y4), (7, vi y7), (0, .ref 131), (1, vi y1), (2, vi y2), (3, vi y3)] [] s (MQx cQ C 1 (cG 65 [y1, y3, y4, y5, y6] t))
def cA65 (N K d C : Nat) : Prop := cU65_0 N K d C ∧ cU65_1 N K d C
def cT57 (K d C : Nat) : Prop := ∀ (s : rS) (t : tab) (x1 : Int), EE cQ C t s → i32 x1 → pcr K d 57 [.ref 131, vi x1] s (MQx cQ C 1 (cG 40 [x1] t))
def cU57_0 (N K d C : Nat) : Prop := ∀ (s : rS) (t : tab) (y5 : Int) (y4 : Int) (y3 : Int) (y2 : Int) (y1 : Int), EE cQ C t s → i32 y5 → i32 y4 → i32 y3 → i32 y2 → i32 y1 → pr N K d tb_M57 26 [(5, vi y5), (4, vi y4), (3, vi y3), (2, vi y2), (0, .ref 131), (1, vi y1)] [] s (MQx cQ C 1 (cG 66 [y1, y2, y3, y4, y5] t))
def cA57 (N K d C : Nat) : Prop := cU57_0 N K d C
def cT58 (K d C : Nat) : Prop := ∀ (s : rS) (t : tab) (x1 : Int), EE cQ C t s → i32 x1 → pcr K d 58 [.ref 131, vi x1] s (MQx cQ C 1 (cG 41 [x1] t))
def cT60 (K d C : Nat) : Prop := ∀ (s : rS) (t : tab) (x1 : Int), EE cQ C t s → i32 x1 → pcr K d 60 [.ref 131, vi x1] s (MQx cQ C 1 (cG 42 [x1] t))
def cT50 (K d C : Nat) : Prop := ∀ (s : rS) (t : tab) (x1 : Int), EE cQ C t s → i32 x1 → pcr K d 50 [.ref 131, vi x1] s (MQx cQ C 0 (cG 43 [x1] t))
def cU50_0 (N K d C : Nat) : Prop := ∀ (s : rS) (t : tab) (y2 : Int) (y1 : Int), EE cQ C t s → i32 y2 → i32 y1 → pr N K d tb_M50 2 [(2, vi y2), (0, .ref 131), (1, vi y1)] [] s (MQx cQ C 0 (cG 67 [y1, y2] t))
def cA50 (N K d C : Nat) : Prop := cU50_0 N K d C
def cT51 (K d C : Nat) : Prop := ∀ (s : rS) (t : tab) (x1 : Int) (x2 : Int), EE cQ C t s → i32 x1 → i32 x2 → pcr K d 51 [.ref 131, vi x1, vi x2] s (MQx cQ C 1 (cG 44 [x1, x2] t))
def cU51_0 (N K d C : Nat) : Prop := ∀ (s : rS) (t : tab) (y5 : Int) (y4 : Int) (y3 : Int) (y1 : Int) (y2 : Int), EE cQ C t s → i32 y5 → i32 y4 → i32 y3 → i32 y1 → i32 y2 → pr N K d tb_M51 8 [(5, vi y5), (4, vi y4), (3, vi y3), (0, .ref 131), (1, vi y1), (2, vi y2)] [] s (MQx cQ C 1 (cG 68 [y1, y2, y3, y4, y5] t))
def cU51_1 (N K d C : Nat) : Prop := ∀ (s : rS) (t : tab) (y5 : Int) (y4 : Int) (y3 : Int) (y6 : Int) (y1 : Int) (y2 : Int), EE cQ C t s → i32 y5 → i32 y4 → i32 y3 → i32 y6 → i32 y1 → i32 y2 → pr N K d tb_M51 8 [(5, vi y5), (4, vi y4), (3, vi y3), (6, vi y6), (0, .ref 131), (1, vi y1), (2, vi y2)] [] s (MQx cQ C 1 (cG 68 [y1, y2, y3, y4, y5] t))
def cA51 (N K d C : Nat) : Prop := cU51_0 N K d C ∧ cU51_1 N K d C
def cT53 (K d C : Nat) : Prop := ∀ (s : rS) (t : tab) (x1 : Int) (x2 : Int), EE cQ C t s → i32 x1 → i32 x2 → pcr K d 53 [.ref 131, vi x1, vi x2] s (MQx cQ C 1 (cG 45 [x1, x2] t))
def cT52 (K d C : Nat) : Prop := ∀ (s : rS) (t : tab) (x1 : Int), EE cQ C t s → i32 x1 → pcr K d 52 [.ref 131, vi x1] s (MQx cQ C 1 (cG 46 [x1] t))
def cT55 (K d C : Nat) : Prop := ∀ (s : rS) (t : tab) (x1 : Int), EE cQ C t s → i32 x1 → pcr K d 55 [.ref 131, vi x1] s (MQx cQ C 1 (cG 47 [x1] t))
def cT70 (K d C : Nat) : Prop := ∀ (s : rS) (t : tab) (x1 : Int), EE cQ C t s → i32 x1 → pcr K d 70 [.ref 131, vi x1] s (MQx cQ C 1 (cG 48 [x1] t))
def cU70_0 (N K d C : Nat) : Prop := ∀ (s : rS) (t : tab) (y18 : Int) (y17 : Int) (y16 : Int) (y15 : Int) (y13 : Int) (y11 : Int) (y9 : Int) (y7 : Int) (y5 : Int) (y3 : Int) (y2 : Int) (y1 : Int), EE cQ C t s → i32 y18 → i32 y17 → i32 y16 → i32 y15 → i64 y13 → i64 y11 → i64 y9 → i64 y7 → i64 y5 → i64 y3 → i32 y2 → i32 y1 → pr N K d tb_M70 53 [(18, vi y18), (17, vi y17), (16, vi y16), (15, vi y15), (13, vl y13), (11, vl y11), (9, vl y9), (7, vl y7), (5, vl y5), (3, vl y3), (2, vi y2), (0, .ref 131), (1, vi y1)] [] s (MQx cQ C 1 (cG 69 [y1, y2, y3, y5, y7, y9, y11, y13, y15, y16, y17, y18] t))
def cU70_1 (N K d C : Nat) : Prop := ∀ (s : rS) (t : tab) (y18 : Int) (y13 : Int) (y11 : Int) (y9 : Int) (y15 : Int) (y17 : Int) (y16 : Int) (y19 : Int) (y7 : Int) (y5 : Int) (y3 : Int) (y2 : Int) (y1 : Int), EE cQ C t s → i32 y18 → i64 y13 → i64 y11 → i64 y9 → i32 y15 → i32 y17 → i32 y16 → i32 y19 → i64 y7 → i64 y5 → i64 y3 → i32 y2 → i32 y1 → pr N K d tb_M70 53 [(18, vi y18), (13, vl y13), (11, vl y11), (9, vl y9), (15, vi y15), (17, vi y17), (16, vi y16), (19, vi y19), (7, vl y7), (5, vl y5), (3, vl y3), (2, vi y2), (0, .ref 131), (1, vi y1)] [] s (MQx cQ C 1 (cG 69 [y1, y2, y3, y5, y7, y9, y11, y13, y15, y16, y17, y18] t))
def cA70 (N K d C : Nat) : Prop := cU70_0 N K d C ∧ cU70_1 N K d C
def cT71 (K d C : Nat) : Prop := ∀ (s : rS) (t : tab) (x1 : Int), EE cQ C t s → i32 x1 → pcr K d 71 [.ref 131, vi x1] s (MQx cQ C 1 (cG 49 [x1] t))
def cT44 (K d C : Nat) : Prop := ∀ (s : rS) (t : tab) (x1 : Int), EE cQ C t s → i32 x1 → pcr K d 44 [.ref 131, vi x1] s (MQx cQ C 1 (cG 50 [x1] t))
def cU44_0 (N K d C : Nat) : Prop := ∀ (s : rS) (t : tab) (y2 : Int) (y1 : Int), EE cQ C t s → i32 y2 → i32 y1 → pr N K d tb_M44 7 [(2, vi y2), (0, .ref 131), (1, vi y1)] [] s (MQx cQ C 1 (cG 70 [y1, y2] t))
def cA44 (N K d C : Nat) : Prop := cU44_0 N K d C
def cT36 (K d C : Nat) : Prop := ∀ (s : rS) (t : tab) (x1 : Int), EE cQ C t s → i32 x1 → pcr K d 36 [.ref 131, vi x1] s (MQx cQ C 1 (cG 51 [x1] t))
def cT74 (K d C : Nat) : Prop := ∀ (s : rS) (t : tab) (x1 : Int) (x2 : Int), EE cQ C t s → i32 x1 → i32 x2 → pcr K d 74 [.ref 131, vi x1, vi x2] s (MQx cQ C 0 (cG 52 [x1, x2] t))
def cT49 (K d C : Nat) : Prop := ∀ (s : rS) (t : tab) (x1 : Int), EE cQ C t s → i32 x1 → pcr K d 49 [.ref 131, vi x1] s (MQx cQ C 1 (cG 53 [x1] t))
def cT75 (K d C : Nat) : Prop := ∀ (s : rS) (t : tab) (x1 : Int), EE cQ C t s → i32 x1 → pcr K d 75 [.ref 131, vi x1] s (MQx cQ C 0 (cG 54 [x1] t))
def cT20 (K d C : Nat) : Prop := ∀ (s : rS) (t : tab), EE cQ C t (up2 s.1 131 1 (C : Int), s.2) → (∀ z t2, cG 13 [] (cst t) = some (some (z, t2)) → ∀ j, 0 ≤ t2 140 j) → pcr K d 20 [.ref 131, .ref C] s (MQx cQ C 0 (cG 55 [] t))
def cU20_0 (N K d C : Nat) : Prop := ∀ (s : rS) (t : tab) (y2 : Int), EE cQ C t s → i32 y2 → pr N K d tb_M20 42 [(2, vi y2), (0, .ref 131), (1, .ref C)] [] s (MQx cQ C 0 (cG 71 [y2] t))
def cU20_1 (N K d C : Nat) : Prop := ∀ (s : rS) (t : tab) (y2 : Int) (y5 : Int) (y4 : Int) (y3 : Int), EE cQ C t s → i32 y2 → i32 y5 → i32 y4 → i32 y3 → pr N K d tb_M20 42 [(2, vi y2), (5, vi y5), (4, vi y4), (3, vi y3), (0, .ref 131), (1, .ref C)] [] s (MQx cQ C 0 (cG 71 [y2] t))
def cU20_2 (N K d C : Nat) : Prop := ∀ (s : rS) (t : tab) (y2 : Int) (y3 : Int), EE cQ C t s → i32 y2 → i32 y3 → pr N K d tb_M20 42 [(2, vi y2), (3, vi y3), (0, .ref 131), (1, .ref C)] [] s (MQx cQ C 0 (cG 71 [y2] t))
def cU20_3 (N K d C : Nat) : Prop := ∀ (s : rS) (t : tab) (y2 : Int) (y3 : Int) (y5 : Int) (y4 : Int), EE cQ C t s → i32 y2 → i32 y3 → i32 y5 → i32 y4 → pr N K d tb_M20 42 [(2, vi y2), (3, vi y3), (5, vi y5), (4, vi y4), (0, .ref 131), (1, .ref C)] [] s (MQx cQ C 0 (cG 71 [y2] t))
def cA20 (N K d C : Nat) : Prop := cU20_0 N K d C ∧ cU20_1 N K d C ∧ cU20_2 N K d C ∧ cU20_3 N K d C
def cT23 (K d C : Nat) : Prop := ∀ (s : rS) (t : tab) (x1 : Int), EE cQ C t s → i32 x1 → pcr K d 23 [.ref (C + 10), vi x1] s (MQx cQ C 0 (cG 56 [x1] t))
def cU23_0 (N K d C : Nat) : Prop := ∀ (s : rS) (t : tab) (y3 : Int) (y2 : Int) (y1 : Int), EE cQ C t s → i32 y3 → i32 y2 → i32 y1 → pr N K d tb_M23 5 [(3, vi y3), (2, vi y2), (0, .ref (C + 10)), (1, vi y1)] [] s (MQx cQ C 0 (cG 72 [y1, y2, y3] t))
def cU23_1 (N K d C : Nat) : Prop := ∀ (s : rS) (t : tab) (y2 : Int) (y3 : Int) (y1 : Int), EE cQ C t s → i32 y2 → i32 y3 → i32 y1 → pr N K d tb_M23 5 [(2, vi y2), (3, vi y3), (0, .ref (C + 10)), (1, vi y1)] [] s (MQx cQ C 0 (cG 72 [y1, y2, y3] t))
def cA23 (N K d C : Nat) : Prop := cU23_0 N K d C ∧ cU23_1 N K d C
def cT76 (K d C : Nat) : Prop := ∀ (s : rS) (t : tab) (x0 : Int), EE cQ C t s → i32 x0 → pcr K d 76 [vi x0] s (MQx cQ C 1 (cG 57 [x0] t))
