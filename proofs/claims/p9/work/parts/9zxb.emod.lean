/-! Models of the reference's run. -/
/-- in -/
def eM120 (rc : MRq) (x0 x2 x4 : Int) (t : tab) : RO :=
  if x0 < x2 then
    (some (some (0, t)))
  else
    (if x4 < x0 then
      (some (some (0, t)))
    else
      (some (some (1, t))))
theorem eM120_k {x0 x2 x4 : Int} {t : tab} : Kn (fun rc => eM120 rc x0 x2 x4 t) := by
  unfold eM120
  exact (Kn_if Kn_c (Kn_if Kn_c Kn_c))
/-- read -/
def eM166 (rc : MRq) (x1 : Int) (t : tab) : RO :=
  some (some (t 178 ((imi (ipl (t 205 x1.toNat) 1) 1).toNat), up2 t 205 x1.toNat (ipl (t 205 x1.toNat) 1)))
theorem eM166_k {x1 : Int} {t : tab} : Kn (fun rc => eM166 rc x1 t) := by
  unfold eM166
  exact Kn_c
/-- push -/
def eM164 (rc : MRq) (x1 x2 : Int) (t : tab) : RO :=
  some (some (0, up2 (up2 t (220 + x1.toNat) ((t 208 x1.toNat).toNat) x2) 208 x1.toNat (ipl ((up2 t (220 + x1.toNat) ((t 208 x1.toNat).toNat) x2) 208 x1.toNat) 1)))
theorem eM164_k {x1 x2 : Int} {t : tab} : Kn (fun rc => eM164 rc x1 x2 t) := by
  unfold eM164
  exact Kn_c
/-- pop -/
def eM167 (rc : MRq) (x1 : Int) (t : tab) : RO :=
  some (some ((up2 t 208 x1.toNat (imi (t 208 x1.toNat) 1)) (220 + x1.toNat) ((imi (t 208 x1.toNat) 1).toNat), up2 t 208 x1.toNat (imi (t 208 x1.toNat) 1)))
theorem eM167_k {x1 : Int} {t : tab} : Kn (fun rc => eM167 rc x1 t) := by
  unfold eM167
  exact Kn_c
/-- wait -/
def eM171 (rc : MRq) (x1 x2 x3 : Int) (t : tab) : RO :=
  some (some (0, up2 (up2 t 206 x1.toNat x2) 207 x1.toNat x3))
theorem eM171_k {x1 x2 x3 : Int} {t : tab} : Kn (fun rc => eM171 rc x1 x2 x3 t) := by
  unfold eM171
  exact Kn_c
/-- first -/
def eM172 (rc : MRq) (x1 : Int) (t : tab) : RO :=
  rc 18 [x1, t (1622 + x1.toNat) 0, 0] (up2 t 1630 x1.toNat (imi (t 1630 x1.toNat) 1))
theorem eM172_k {x1 : Int} {t : tab} : Kn (fun rc => eM172 rc x1 t) := by
  unfold eM172
  exact Kn_r
/-- first, at 21 -/
def eM172_21 (rc : MRq) (y1 y2 y3 : Int) (t : tab) : RO :=
  if t 1630 y1.toNat ≤ y3 then
    (some (some (y2, t)))
  else
    (rc 18 [y1, y2, y3 + 1] (up2 t (1622 + y1.toNat) y3.toNat (t (1622 + y1.toNat) ((ipl y3 1).toNat))))
theorem eM172_21_k {y1 y2 y3 : Int} {t : tab} : Kn (fun rc => eM172_21 rc y1 y2 y3 t) := by
  unfold eM172_21
  exact (Kn_if Kn_c Kn_r)
/-- make -/
def eM161 (rc : MRq) (x1 x2 x3 : Int) (t : tab) : RO :=
  if 0 ≤ x1 ∧ x1 < 700 then
    (some (some (0, up2 (up2 (up2 (up2 (up2 (up2 t 205 x1.toNat x2) 206 x1.toNat 1) 208 x1.toNat 0) 209 x1.toNat 0) 210 x1.toNat x3) 211 x1.toNat 0)))
  else none
theorem eM161_k {x1 x2 x3 : Int} {t : tab} : Kn (fun rc => eM161 rc x1 x2 x3 t) := by
  unfold eM161
  exact (Kn_if Kn_c Kn_c)
/-- together -/
def eM168 (rc : MRq) (x0 x1 x2 : Int) (t : tab) : RO :=
  if x0 = 37 then
    (if x2 ≠ 0 then
      (some (some (rmw x1 x2, t)))
    else
      (some (some (0, t))))
  else
    (if x0 = 38 then
      (some (some (ian x1 x2, t)))
    else
      (if x0 = 42 then
        (some (some (imu x1 x2, t)))
      else
        (if x0 = 43 then
          (some (some (ipl x1 x2, t)))
        else
          (if x0 = 45 then
            (some (some (imi x1 x2, t)))
          else
            (if x0 = 47 then
              (if x2 ≠ 0 then
                (some (some (dv0 x1 x2, t)))
              else
                (some (some (0, t))))
            else
              (if x0 = 60 then
                (if x2 ≤ x1 then
                  (some (some (0, t)))
                else
                  (some (some (1, t))))
              else
                (if x0 = 62 then
                  (if x1 ≤ x2 then
                    (some (some (0, t)))
                  else
                    (some (some (1, t))))
                else
                  (if x0 = 94 then
                    (some (some (ixo x1 x2, t)))
                  else
                    (if x0 = 124 then
                      (some (some (ior x1 x2, t)))
                    else
                      (if x0 = 9766 then
                        (if x1 = 0 then
                          (some (some (0, t)))
                        else
                          (if x2 = 0 then
                            (some (some (0, t)))
                          else
                            (some (some (1, t)))))
                      else
                        (if x0 = 15420 then
                          (some (some (isl x1 x2, t)))
                        else
                          (if x0 = 15649 then
                            (if x1 = x2 then
                              (some (some (0, t)))
                            else
                              (some (some (1, t))))
                          else
                            (if x0 = 15676 then
                              (if x2 < x1 then
                                (some (some (0, t)))
                              else
                                (some (some (1, t))))
                            else
                              (if x0 = 15677 then
                                (if x1 ≠ x2 then
                                  (some (some (0, t)))
                                else
                                  (some (some (1, t))))
                              else
                                (if x0 = 15934 then
                                  (some (some (isr x1 x2, t)))
                                else
                                  (if x0 = 31868 then
                                    (if x1 ≠ 0 then
                                      (some (some (1, t)))
                                    else
                                      (if x2 = 0 then
                                        (some (some (0, t)))
                                      else
                                        (some (some (1, t)))))
                                  else
                                    (if x1 < x2 then
                                      (some (some (0, t)))
                                    else
                                      (some (some (1, t))))))))))))))))))))
theorem eM168_k {x0 x1 x2 : Int} {t : tab} : Kn (fun rc => eM168 rc x0 x1 x2 t) := by
  unfold eM168
  exact (Kn_if (Kn_if Kn_c Kn_c) (Kn_if Kn_c (Kn_if Kn_c (Kn_if Kn_c (Kn_if Kn_c (Kn_if (Kn_if Kn_c Kn_c) (Kn_if (Kn_if Kn_c Kn_c) (Kn_if (Kn_if Kn_c Kn_c) (Kn_if Kn_c (Kn_if Kn_c (Kn_if (Kn_if Kn_c (Kn_if Kn_c Kn_c)) (Kn_if Kn_c (Kn_if (Kn_if Kn_c Kn_c) (Kn_if (Kn_if Kn_c Kn_c) (Kn_if (Kn_if Kn_c Kn_c) (Kn_if Kn_c (Kn_if (Kn_if Kn_c (Kn_if Kn_c Kn_c)) (Kn_if Kn_c Kn_c))))))))))))))))))
/-- move -/
def eM170 (rc : MRq) (x1 x2 x3 x4 : Int) (t : tab) : RO :=
  if x2 = 13 then
    (some (some (0, (wtE t x1 2 x3))))
  else
    (if x2 = 14 then
      (some (some (0, (wtE t x1 3 x3))))
    else
      (if x2 = 15 then
        (if 40 ≤ t 1630 ((ipl 4 x3).toNat) then
          (some (some (0, (wtE (up2 t 205 x1.toNat x4) x1 4 x3))))
        else
          (some (some (0, up2 (up2 ((pos t x1)) (1622 + ((ipl 4 x3).toNat)) ((t 1630 ((ipl 4 x3).toNat)).toNat) (i2s (poz t x1))) 1630 ((ipl 4 x3).toNat) (ipl ((up2 ((pos t x1)) (1622 + ((ipl 4 x3).toNat)) ((t 1630 ((ipl 4 x3).toNat)).toNat) (i2s (poz t x1))) 1630 ((ipl 4 x3).toNat)) 1)))))
      else
        (if t 1630 x3.toNat ≤ 0 then
          (some (some (0, (wtE (up2 t 205 x1.toNat x4) x1 5 x3))))
        else
          (bo (rc 5 [x3] t) fun z42 t42 =>
          some (some (0, (phE t42 x1 z42)))))))
theorem eM170_k {x1 x2 x3 x4 : Int} {t : tab} : Kn (fun rc => eM170 rc x1 x2 x3 x4 t) := by
  unfold eM170
  exact (Kn_if Kn_c (Kn_if Kn_c (Kn_if (Kn_if Kn_c Kn_c) (Kn_if Kn_c (Kn_bo Kn_r fun _ _ => Kn_c)))))
/-- fork -/
def eM169 (rc : MRq) (x1 : Int) (t : tab) : RO :=
  rc 19 [x1, rdz t x1, (rds t x1) 205 x1.toNat, 0] (up2 ((rds t x1)) 205 x1.toNat (ipl ((rds t x1) 205 x1.toNat) 6))
theorem eM169_k {x1 : Int} {t : tab} : Kn (fun rc => eM169 rc x1 t) := by
  unfold eM169
  exact Kn_r
/-- fork, at 27 -/
def eM169_27 (rc : MRq) (y1 y2 y3 y4 : Int) (t : tab) : RO :=
  if y2 ≤ y4 then
    (some (some (0, up2 (up2 t 211 y1.toNat y2) 206 y1.toNat 6)))
  else
    (rc 20 [y1, y2, y3, y4, 0] t)
theorem eM169_27_k {y1 y2 y3 y4 : Int} {t : tab} : Kn (fun rc => eM169_27 rc y1 y2 y3 y4 t) := by
  unfold eM169_27
  exact (Kn_if Kn_c Kn_r)
/-- fork, at 36 -/
def eM169_36 (rc : MRq) (y1 y2 y3 y4 y5 : Int) (t : tab) : RO :=
  if t 170 55 ≤ y5 then
    (if y5 ≠ t 170 55 then
      (bo (rc 6 [y5, t 178 ((ipl y3 y4).toNat), y1] t) fun z9 t9 =>
      rc 19 [y1, y2, y3, ipl y4 1] t9)
    else
      (bo (rc 6 [y5, t 178 ((ipl y3 y4).toNat), y1] (up2 t 170 55 (ipl (t 170 55) 1))) fun z18 t18 =>
      rc 19 [y1, y2, y3, ipl y4 1] t18))
  else
    (if t 206 y5.toNat = 0 then
      (if y5 ≠ t 170 55 then
        (bo (rc 6 [y5, t 178 ((ipl y3 y4).toNat), y1] t) fun z30 t30 =>
        rc 19 [y1, y2, y3, ipl y4 1] t30)
      else
        (bo (rc 6 [y5, t 178 ((ipl y3 y4).toNat), y1] (up2 t 170 55 (ipl (t 170 55) 1))) fun z39 t39 =>
        rc 19 [y1, y2, y3, ipl y4 1] t39))
    else
      (rc 20 [y1, y2, y3, y4, y5 + 1] t))
theorem eM169_36_k {y1 y2 y3 y4 y5 : Int} {t : tab} : Kn (fun rc => eM169_36 rc y1 y2 y3 y4 y5 t) := by
  unfold eM169_36
  exact (Kn_if (Kn_if (Kn_bo Kn_r fun _ _ => Kn_r) (Kn_bo Kn_r fun _ _ => Kn_r)) (Kn_if (Kn_if (Kn_bo Kn_r fun _ _ => Kn_r) (Kn_bo Kn_r fun _ _ => Kn_r)) Kn_r))
/-- isFree -/
def eM163 (rc : MRq) (x1 : Int) (t : tab) : RO :=
  if 0 ≤ x1 ∧ x1 < 700 then
    (if t 206 x1.toNat ≠ 4 then
      (if t 206 x1.toNat ≠ 5 then
        (rc 21 [x1, 0] t)
      else
        (if t 1630 ((t 207 x1.toNat).toNat) ≤ 0 then
          (some (some (0, t)))
        else
          (some (some (1, t)))))
    else
      (if 40 ≤ t 1630 ((ipl 4 (t 207 x1.toNat)).toNat) then
        (some (some (0, t)))
      else
        (some (some (1, t)))))
  else none
theorem eM163_k {x1 : Int} {t : tab} : Kn (fun rc => eM163 rc x1 t) := by
  unfold eM163
  exact (Kn_if (Kn_if (Kn_if Kn_r (Kn_if Kn_c Kn_c)) (Kn_if Kn_c Kn_c)) Kn_c)
/-- isFree, at 66 -/
def eM163_66 (rc : MRq) (y1 y2 : Int) (t : tab) : RO :=
  if t 170 55 ≤ y2 then
    (some (some (0, t)))
  else
    (if 0 ≤ y2 ∧ y2 < 700 then
      (if t 206 y2.toNat ≠ imi 5 (t 206 y1.toNat) then
        (rc 21 [y1, y2 + 1] t)
      else
        (if t 207 y2.toNat ≠ t 207 y1.toNat then
          (rc 21 [y1, y2 + 1] t)
        else
          (if y2 ≠ y1 then
            (if t 206 y1.toNat ≠ 2 then
              (some (some (1, up2 ((phE (up2 t 208 y2.toNat (imi (t 208 y2.toNat) 1)) (imi (ipl y1 y2) y2) ((up2 t 208 y2.toNat (imi (t 208 y2.toNat) 1)) (220 + y2.toNat) ((imi (t 208 y2.toNat) 1).toNat)))) 206 y2.toNat 1)))
            else
              (some (some (1, up2 ((phE (up2 t 208 y1.toNat (imi (t 208 y1.toNat) 1)) (imi (ipl y1 y2) y1) ((up2 t 208 y1.toNat (imi (t 208 y1.toNat) 1)) (220 + y1.toNat) ((imi (t 208 y1.toNat) 1).toNat)))) 206 y2.toNat 1))))
          else
            (rc 21 [y1, y2 + 1] t))))
    else none)
theorem eM163_66_k {y1 y2 : Int} {t : tab} : Kn (fun rc => eM163_66 rc y1 y2 t) := by
  unfold eM163_66
  exact (Kn_if Kn_c (Kn_if (Kn_if Kn_r (Kn_if Kn_r (Kn_if (Kn_if Kn_c Kn_c) Kn_r))) Kn_c))
/-- one -/
def eM165 (rc : MRq) (x1 : Int) (t : tab) : RO :=
  if 0 ≤ x1 ∧ x1 < 700 then
    (if rdz t x1 = 0 then
      (if (rds t x1) 170 53 ≠ (rds t x1) 170 54 then
        (some (some (0, up2 ((rds t x1)) 170 53 (ipl ((rds t x1) 170 53) 1))))
      else
        (some (some (0, up2 ((rds t x1)) 170 52 3))))
    else
      (if rdz t x1 = 1 then
        (some (some (0, (rds t x1))))
      else
        (if rdz t x1 = 2 then
          (some (some (0, (phE ((rds ((rds t x1)) x1)) x1 (rdz ((rds t x1)) x1)))))
        else
          (if rdz t x1 = 3 then
            (some (some (0, (phE ((rds ((rds t x1)) x1)) x1 ((rds ((rds t x1)) x1) 203 ((rdz ((rds t x1)) x1).toNat))))))
          else
            (if rdz t x1 = 4 then
              (some (some (0, (phE ((pos ((rds ((rds t x1)) x1)) x1)) x1 ((pos ((rds ((rds t x1)) x1)) x1) (213 + ((rdz ((rds t x1)) x1).toNat)) ((ian (poz ((rds ((rds t x1)) x1)) x1) (imi ((pos ((rds ((rds t x1)) x1)) x1) 180 ((rdz ((rds t x1)) x1).toNat)) 1)).toNat))))))
            else
              (if rdz t x1 = 5 then
                (if (pos ((rds ((rds t x1)) x1)) x1) 179 ((rdz ((rds t x1)) x1).toNat) ≠ 0 then
                  (some (some (0, up2 ((pos ((rds ((rds t x1)) x1)) x1)) 203 ((rdz ((rds t x1)) x1).toNat) (ian (poz ((rds ((rds t x1)) x1)) x1) (imi (isl 1 ((pos ((rds ((rds t x1)) x1)) x1) 179 ((rdz ((rds t x1)) x1).toNat))) 1)))))
                else
                  (some (some (0, up2 ((pos ((rds ((rds t x1)) x1)) x1)) 203 ((rdz ((rds t x1)) x1).toNat) (i2s (poz ((rds ((rds t x1)) x1)) x1))))))
              else
                (if rdz t x1 = 6 then
                  (some (some (0, up2 ((pos ((pos ((rds ((rds t x1)) x1)) x1)) x1)) (213 + ((rdz ((rds t x1)) x1).toNat)) ((ian (poz ((pos ((rds ((rds t x1)) x1)) x1)) x1) (imi ((pos ((pos ((rds ((rds t x1)) x1)) x1)) x1) 180 ((rdz ((rds t x1)) x1).toNat)) 1)).toNat) (i2s (poz ((rds ((rds t x1)) x1)) x1)))))
                else
                  (if rdz t x1 = 7 then
                    (some (some (0, (phE ((pos ((pos ((rds ((rds t x1)) x1)) x1)) x1)) x1 (tgx (rdz ((rds t x1)) x1) (poz ((pos ((rds ((rds t x1)) x1)) x1)) x1) (poz ((rds ((rds t x1)) x1)) x1))))))
                  else
                    (if rdz t x1 = 8 then
                      (if rdz ((rds t x1)) x1 ≠ 45 then
                        (if rdz ((rds t x1)) x1 ≠ 126 then
                          (if poz ((rds ((rds t x1)) x1)) x1 ≠ 0 then
                            (some (some (0, (phE ((pos ((rds ((rds t x1)) x1)) x1)) x1 0))))
                          else
                            (some (some (0, (phE ((pos ((rds ((rds t x1)) x1)) x1)) x1 1)))))
                        else
                          (some (some (0, (phE ((pos ((rds ((rds t x1)) x1)) x1)) x1 (ixo (poz ((rds ((rds t x1)) x1)) x1) ((-1))))))))
                      else
                        (some (some (0, (phE ((pos ((rds ((rds t x1)) x1)) x1)) x1 (ing (poz ((rds ((rds t x1)) x1)) x1)))))))
                    else
                      (if rdz t x1 = 9 then
                        (some (some (0, up2 ((rds t x1)) 205 x1.toNat ((rds t x1) 178 (((rds t x1) 205 x1.toNat).toNat)))))
                      else
                        (if rdz t x1 = 10 then
                          (if poz ((rds ((rds t x1)) x1)) x1 ≠ 0 then
                            (some (some (0, (pos ((rds ((rds t x1)) x1)) x1))))
                          else
                            (some (some (0, up2 ((pos ((rds ((rds t x1)) x1)) x1)) 205 x1.toNat (rdz ((rds t x1)) x1)))))
                        else
                          (if rdz t x1 = 11 then
                            (some (some (0, up2 (up2 (up2 ((rds ((rds t x1)) x1)) (921 + x1.toNat) (((rds ((rds t x1)) x1) 209 x1.toNat).toNat) ((rds ((rds t x1)) x1) 205 x1.toNat)) 209 x1.toNat (ipl ((up2 ((rds ((rds t x1)) x1)) (921 + x1.toNat) (((rds ((rds t x1)) x1) 209 x1.toNat).toNat) ((rds ((rds t x1)) x1) 205 x1.toNat)) 209 x1.toNat) 1)) 205 x1.toNat (rdz ((rds t x1)) x1))))
                          else
                            (if rdz t x1 = 12 then
                              (some (some (0, up2 (up2 ((rds t x1)) 209 x1.toNat (imi ((rds t x1) 209 x1.toNat) 1)) 205 x1.toNat ((up2 ((rds t x1)) 209 x1.toNat (imi ((rds t x1) 209 x1.toNat) 1)) (921 + x1.toNat) ((imi ((rds t x1) 209 x1.toNat) 1).toNat)))))
                            else
                              (if rdz t x1 = 13 then
                                (bo (rc 8 [x1, rdz t x1, rdz ((rds t x1)) x1, t 205 x1.toNat] ((rds ((rds t x1)) x1))) fun z148 t148 =>
                                some (some (0, t148)))
                              else
                                (if rdz t x1 = 14 then
                                  (bo (rc 8 [x1, rdz t x1, rdz ((rds t x1)) x1, t 205 x1.toNat] ((rds ((rds t x1)) x1))) fun z151 t151 =>
                                  some (some (0, t151)))
                                else
                                  (if rdz t x1 = 15 then
                                    (bo (rc 8 [x1, rdz t x1, rdz ((rds t x1)) x1, t 205 x1.toNat] ((rds ((rds t x1)) x1))) fun z154 t154 =>
                                    some (some (0, t154)))
                                  else
                                    (if rdz t x1 = 16 then
                                      (bo (rc 8 [x1, rdz t x1, rdz ((rds t x1)) x1, t 205 x1.toNat] ((rds ((rds t x1)) x1))) fun z157 t157 =>
                                      some (some (0, t157)))
                                    else
                                      (if rdz t x1 = 17 then
                                        (some (some (0, up2 ((rds ((rds ((rds t x1)) x1)) x1)) 204 ((rdz ((rds t x1)) x1).toNat) (rdz ((rds ((rds t x1)) x1)) x1))))
                                      else
                                        (if rdz t x1 = 18 then
                                          (if 0 ≤ imi ((rds ((rds ((rds t x1)) x1)) x1) 204 ((rdz ((rds t x1)) x1).toNat)) 1 then
                                            (some (some (0, up2 ((rds ((rds ((rds t x1)) x1)) x1)) 204 ((rdz ((rds t x1)) x1).toNat) (imi ((rds ((rds ((rds t x1)) x1)) x1) 204 ((rdz ((rds t x1)) x1).toNat)) 1))))
                                          else
                                            (some (some (0, up2 (up2 ((rds ((rds ((rds t x1)) x1)) x1)) 204 ((rdz ((rds t x1)) x1).toNat) (imi ((rds ((rds ((rds t x1)) x1)) x1) 204 ((rdz ((rds t x1)) x1).toNat)) 1)) 205 x1.toNat (rdz ((rds ((rds t x1)) x1)) x1)))))
                                        else
                                          (if rdz t x1 = 19 then
                                            (bo (rc 9 [x1] ((rds t x1))) fun z182 t182 =>
                                            some (some (0, t182)))
                                          else
                                            (if rdz t x1 = 20 then
                                              (if imi ((rds t x1) 211 (((rds t x1) 210 x1.toNat).toNat)) 1 ≠ 0 then
                                                (some (some (0, up2 (up2 ((rds t x1)) 206 x1.toNat 0) 211 (((rds t x1) 210 x1.toNat).toNat) (imi ((rds t x1) 211 (((rds t x1) 210 x1.toNat).toNat)) 1))))
                                              else
                                                (some (some (0, up2 (up2 (up2 ((rds t x1)) 206 x1.toNat 0) 211 (((rds t x1) 210 x1.toNat).toNat) (imi ((rds t x1) 211 (((rds t x1) 210 x1.toNat).toNat)) 1)) 206 (((rds t x1) 210 x1.toNat).toNat) 1))))
                                            else
                                              (if rdz t x1 = 21 then
                                                (some (some (0, up2 (up2 ((rds t x1)) 206 x1.toNat 0) 170 52 1)))
                                              else
                                                (bo (rc 8 [x1, rdz t x1, rdz ((rds t x1)) x1, t 205 x1.toNat] ((rds ((rds t x1)) x1))) fun z210 t210 =>
                                                some (some (0, t210)))))))))))))))))))))))))
  else none
theorem eM165_k {x1 : Int} {t : tab} : Kn (fun rc => eM165 rc x1 t) := by
  unfold eM165
  exact (Kn_if (Kn_if (Kn_if Kn_c Kn_c) (Kn_if Kn_c (Kn_if Kn_c (Kn_if Kn_c (Kn_if Kn_c (Kn_if (Kn_if Kn_c Kn_c) (Kn_if Kn_c (Kn_if Kn_c (Kn_if (Kn_if (Kn_if (Kn_if Kn_c Kn_c) Kn_c) Kn_c) (Kn_if Kn_c (Kn_if (Kn_if Kn_c Kn_c) (Kn_if Kn_c (Kn_if Kn_c (Kn_if (Kn_bo Kn_r fun _ _ => Kn_c) (Kn_if (Kn_bo Kn_r fun _ _ => Kn_c) (Kn_if (Kn_bo Kn_r fun _ _ => Kn_c) (Kn_if (Kn_bo Kn_r fun _ _ => Kn_c) (Kn_if Kn_c (Kn_if (Kn_if Kn_c Kn_c) (Kn_if (Kn_bo Kn_r fun _ _ => Kn_c) (Kn_if (Kn_if Kn_c Kn_c) (Kn_if Kn_c (Kn_bo Kn_r fun _ _ => Kn_c))))))))))))))))))))))) Kn_c)
/-- run -/
def eM162 (rc : MRq) (x1 : Int) (t : tab) : RO :=
  if t 170 20 ≠ 0 then
    (if inz x1 1 20000 = 0 then
      (some (some ((-1), t)))
    else
      (if t 170 52 ≠ 3 then
        (if t 170 52 ≠ 1 then
          (rc 22 [1] (up2 (up2 (up2 t 170 53 0) 170 54 x1) 170 52 2))
        else
          (some (some (1, up2 t 170 53 0))))
      else
        (some (some ((-1), t)))))
  else
    (some (some ((-2), t)))
theorem eM162_k {x1 : Int} {t : tab} : Kn (fun rc => eM162 rc x1 t) := by
  unfold eM162
  exact (Kn_if (Kn_if Kn_c (Kn_if (Kn_if Kn_r Kn_c) Kn_c)) Kn_c)
/-- run, at 59 -/
def eM162_59 (rc : MRq) (y2 : Int) (t : tab) : RO :=
  if y2 = 0 then
    (if t 170 52 ≠ 3 then
      (some (some (t 170 52, t)))
    else
      (some (some (t 170 52, up2 t 170 53 0))))
  else
    (if t 170 52 ≠ 2 then
      (if t 170 52 ≠ 3 then
        (some (some (t 170 52, t)))
      else
        (some (some (t 170 52, up2 t 170 53 0))))
    else
      (rc 23 [0, 0] t))
theorem eM162_59_k {y2 : Int} {t : tab} : Kn (fun rc => eM162_59 rc y2 t) := by
  unfold eM162_59
  exact (Kn_if (Kn_if Kn_c Kn_c) (Kn_if (Kn_if Kn_c Kn_c) Kn_r))
/-- run, at 75 -/
def eM162_75 (rc : MRq) (y2 y3 : Int) (t : tab) : RO :=
  if t 170 55 ≤ y3 then
    (rc 22 [y2] t)
  else
    (if t 170 52 ≠ 2 then
      (rc 22 [y2] t)
    else
      (if t 206 y3.toNat = 0 then
        (rc 23 [y2, y3 + 1] t)
      else
        (if t 206 y3.toNat = 6 then
          (rc 23 [y2, y3 + 1] t)
        else
          (if t 206 y3.toNat = 1 then
            (rc 24 [1, y3] (up2 t 206 y3.toNat 1))
          else
            (bo (rc 10 [y3] t) fun z22 t22 =>
            if z22 ≠ 0 then
              (rc 24 [1, y3] (up2 t22 206 y3.toNat 1))
            else
              (rc 23 [y2, y3 + 1] t22))))))
theorem eM162_75_k {y2 y3 : Int} {t : tab} : Kn (fun rc => eM162_75 rc y2 y3 t) := by
  unfold eM162_75
  exact (Kn_if Kn_r (Kn_if Kn_r (Kn_if Kn_r (Kn_if Kn_r (Kn_if Kn_r (Kn_bo Kn_r fun _ _ => (Kn_if Kn_r Kn_r)))))))
/-- run, at 141 -/
def eM162_141 (rc : MRq) (y2 y3 : Int) (t : tab) : RO :=
  if t 206 y3.toNat ≠ 1 then
    (rc 23 [y2, y3 + 1] t)
  else
    (if t 170 52 ≠ 2 then
      (rc 23 [y2, y3 + 1] t)
    else
      (bo (rc 11 [y3] t) fun z9 t9 =>
      rc 24 [y2, y3] t9))
theorem eM162_141_k {y2 y3 : Int} {t : tab} : Kn (fun rc => eM162_141 rc y2 y3 t) := by
  unfold eM162_141
  exact (Kn_if Kn_r (Kn_if Kn_r (Kn_bo Kn_r fun _ _ => Kn_r)))
/-- give -/
def eM173 (rc : MRq) (x1 x2 : Int) (t : tab) : RO :=
  if t 170 20 = 0 then
    (some (some ((-2), t)))
  else
    (if t 170 52 = 3 then
      (some (some ((-2), t)))
    else
      (if inz x1 0 (imi (t 177 7) 1) ≠ 0 then
        (if t 1630 x1.toNat ≠ 40 then
          (some (some (ipl ((up2 t (1622 + x1.toNat) ((t 1630 x1.toNat).toNat) (i2s x2)) 1630 x1.toNat) 1, up2 (up2 t (1622 + x1.toNat) ((t 1630 x1.toNat).toNat) (i2s x2)) 1630 x1.toNat (ipl ((up2 t (1622 + x1.toNat) ((t 1630 x1.toNat).toNat) (i2s x2)) 1630 x1.toNat) 1))))
        else
          (some (some ((-3), t))))
      else
        (some (some ((-2), t)))))
theorem eM173_k {x1 x2 : Int} {t : tab} : Kn (fun rc => eM173 rc x1 x2 t) := by
  unfold eM173
  exact (Kn_if Kn_c (Kn_if Kn_c (Kn_if (Kn_if Kn_c Kn_c) Kn_c)))
/-- take -/
def eM174 (rc : MRq) (x1 : Int) (t : tab) : RO :=
  if t 170 20 = 0 then
    (some (some (1099511627776, t)))
  else
    (if t 170 52 = 3 then
      (some (some (1099511627776, t)))
    else
      (if inz x1 0 (imi (t 177 8) 1) = 0 then
        (some (some (1099511627776, t)))
      else
        (if t 1630 ((ipl 4 x1).toNat) ≠ 0 then
          (bo (rc 5 [ipl 4 x1] t) fun z17 t17 =>
          some (some (z17, t17)))
        else
          (some (some (1099511627776, t))))))
theorem eM174_k {x1 : Int} {t : tab} : Kn (fun rc => eM174 rc x1 t) := by
  unfold eM174
  exact (Kn_if Kn_c (Kn_if Kn_c (Kn_if Kn_c (Kn_if (Kn_bo Kn_r fun _ _ => Kn_c) Kn_c))))
/-- count -/
def eM176 (rc : MRq) (x1 : Int) (t : tab) : RO :=
  if inz x1 0 12 ≠ 0 then
    (if t 170 20 ≠ 0 then
      (if x1 = 0 then
        (some (some (t 177 3, t)))
      else
        (if x1 = 1 then
          (some (some (t 177 4, t)))
        else
          (if x1 = 2 then
            (some (some (t 177 5, t)))
          else
            (if x1 = 3 then
              (some (some (t 177 6, t)))
            else
              (if x1 = 4 then
                (some (some (t 177 7, t)))
              else
                (if x1 = 5 then
                  (some (some (t 177 8, t)))
                else
                  (if x1 = 6 then
                    (some (some (t 177 9, t)))
                  else
                    (if x1 = 7 then
                      (some (some (t 170 53, t)))
                    else
                      (if x1 = 8 then
                        (some (some (t 170 52, t)))
                      else
                        (if t 170 52 ≠ 3 then
                          (some (some (t 1630 ((imi (ipl 4 x1) 9).toNat), t)))
                        else
                          (some (some (0, t)))))))))))))
    else
      (some (some (0, t))))
  else
    (some (some ((-1), t)))
theorem eM176_k {x1 : Int} {t : tab} : Kn (fun rc => eM176 rc x1 t) := by
  unfold eM176
  exact (Kn_if (Kn_if (Kn_if Kn_c (Kn_if Kn_c (Kn_if Kn_c (Kn_if Kn_c (Kn_if Kn_c (Kn_if Kn_c (Kn_if Kn_c (Kn_if Kn_c (Kn_if Kn_c (Kn_if Kn_c Kn_c)))))))))) Kn_c) Kn_c)
/-- end -/
def eM119 (rc : MRq) (x1 : Int) (t : tab) : RO :=
  if inz x1 0 (t 170 1) ≠ 0 then
    (some (some (x1, up2 t 170 1 x1)))
  else
    (some (some ((-1), t)))
theorem eM119_k {x1 : Int} {t : tab} : Kn (fun rc => eM119 rc x1 t) := by
  unfold eM119
  exact (Kn_if Kn_c Kn_c)
/-- look -/
def eM175 (rc : MRq) (x1 : Int) (t : tab) : RO :=
  if t 170 20 = 0 then
    (some (some (1099511627776, up2 t 170 1 0)))
  else
    (if t 170 52 ≠ 3 then
      (rc 25 [x1, t 170 1, 0] (up2 t 170 1 0))
    else
      (some (some (1099511627776, up2 t 170 1 0))))
theorem eM175_k {x1 : Int} {t : tab} : Kn (fun rc => eM175 rc x1 t) := by
  unfold eM175
  exact (Kn_if Kn_c (Kn_if Kn_r Kn_c))
/-- look, at 31 -/
def eM175_31 (rc : MRq) (y1 y2 y3 : Int) (t : tab) : RO :=
  if t 177 18 ≤ y3 then
    (some (some (1099511627776, t)))
  else
    (if imi (t 183 y3.toNat) (t 182 y3.toNat) ≠ y2 then
      (rc 26 [y1, y2, y3, 0, 0] t)
    else
      (rc 26 [y1, y2, y3, 1, 0] t))
theorem eM175_31_k {y1 y2 y3 : Int} {t : tab} : Kn (fun rc => eM175_31 rc y1 y2 y3 t) := by
  unfold eM175_31
  exact (Kn_if Kn_c (Kn_if Kn_r Kn_r))
/-- look, at 75 -/
def eM175_75 (rc : MRq) (y1 y2 y3 y4 y5 : Int) (t : tab) : RO :=
  if y2 ≤ y5 then
    (if y4 = 0 then
      (rc 25 [y1, y2, y3 + 1] t)
    else
      (if t 184 y3.toNat ≠ 0 then
        (some (some (t (213 + ((t 185 y3.toNat).toNat)) ((ian y1 (imi (t 180 ((t 185 y3.toNat).toNat)) 1)).toNat), t)))
      else
        (some (some (t 203 ((t 185 y3.toNat).toNat), t)))))
  else
    (if y4 = 0 then
      (rc 25 [y1, y2, y3 + 1] t)
    else
      (if t 181 ((ipl (t 182 y3.toNat) y5).toNat) ≠ t 171 y5.toNat then
        (rc 26 [y1, y2, y3, 0, y5 + 1] t)
      else
        (rc 26 [y1, y2, y3, 1, y5 + 1] t)))
theorem eM175_75_k {y1 y2 y3 y4 y5 : Int} {t : tab} : Kn (fun rc => eM175_75 rc y1 y2 y3 y4 y5 t) := by
  unfold eM175_75
  exact (Kn_if (Kn_if Kn_r (Kn_if Kn_c Kn_c)) (Kn_if Kn_r (Kn_if Kn_r Kn_r)))
def eL : List (MRq → List Int → tab → RO) := [
  fun rc xs t => eM120 rc (xs.getD 0 0) (xs.getD 1 0) (xs.getD 2 0) t,
  fun rc xs t => eM166 rc (xs.getD 0 0) t,
  fun rc xs t => eM164 rc (xs.getD 0 0) (xs.getD 1 0) t,
  fun rc xs t => eM167 rc (xs.getD 0 0) t,
  fun rc xs t => eM171 rc (xs.getD 0 0) (xs.getD 1 0) (xs.getD 2 0) t,
  fun rc xs t => eM172 rc (xs.getD 0 0) t,
  fun rc xs t => eM161 rc (xs.getD 0 0) (xs.getD 1 0) (xs.getD 2 0) t,
  fun rc xs t => eM168 rc (xs.getD 0 0) (xs.getD 1 0) (xs.getD 2 0) t,
  fun rc xs t => eM170 rc (xs.getD 0 0) (xs.getD 1 0) (xs.getD 2 0) (xs.getD 3 0) t,
  fun rc xs t => eM169 rc (xs.getD 0 0) t,
  fun rc xs t => eM163 rc (xs.getD 0 0) t,
  fun rc xs t => eM165 rc (xs.getD 0 0) t,
  fun rc xs t => eM162 rc (xs.getD 0 0) t,
  fun rc xs t => eM173 rc (xs.getD 0 0) (xs.getD 1 0) t,
  fun rc xs t => eM174 rc (xs.getD 0 0) t,
  fun rc xs t => eM176 rc (xs.getD 0 0) t,
  fun rc xs t => eM119 rc (xs.getD 0 0) t,
  fun rc xs t => eM175 rc (xs.getD 0 0) t,
  fun rc xs t => eM172_21 rc (xs.getD 0 0) (xs.getD 1 0) (xs.getD 2 0) t,
  fun rc xs t => eM169_27 rc (xs.getD 0 0) (xs.getD 1 0) (xs.getD 2 0) (xs.getD 3 0) t,
  fun rc xs t => eM169_36 rc (xs.getD 0 0) (xs.getD 1 0) (xs.getD 2 0) (xs.getD 3 0) (xs.getD 4 0) t,
  fun rc xs t => eM163_66 rc (xs.getD 0 0) (xs.getD 1 0) t,
  fun rc xs t => eM162_59 rc (xs.getD 0 0) t,
  fun rc xs t => eM162_75 rc (xs.getD 0 0) (xs.getD 1 0) t,
  fun rc xs t => eM162_141 rc (xs.getD 0 0) (xs.getD 1 0) t,
  fun rc xs t => eM175_31 rc (xs.getD 0 0) (xs.getD 1 0) (xs.getD 2 0) t,
  fun rc xs t => eM175_75 rc (xs.getD 0 0) (xs.getD 1 0) (xs.getD 2 0) (xs.getD 3 0) (xs.getD 4 0) t]
def eB (rc : MRq) : MRq := fun i xs t => match eL[i]? with
  | some F => F rc xs t
  | none => none
theorem eL_k : ∀ F ∈ eL, ∀ xs t, Kn (fun rc => F rc xs t) := by
  unfold eL
  simp only [List.forall_mem_cons]
  exact ⟨fun _ _ => eM120_k, fun _ _ => eM166_k, fun _ _ => eM164_k, fun _ _ => eM167_k, fun _ _ => eM171_k, fun _ _ => eM172_k, fun _ _ => eM161_k, fun _ _ => eM168_k, fun _ _ => eM170_k, fun _ _ => eM169_k, fun _ _ => eM163_k, fun _ _ => eM165_k, fun _ _ => eM162_k, fun _ _ => eM173_k, fun _ _ => eM174_k, fun _ _ => eM176_k, fun _ _ => eM119_k, fun _ _ => eM175_k, fun _ _ => eM172_21_k, fun _ _ => eM169_27_k, fun _ _ => eM169_36_k, fun _ _ => eM163_66_k, fun _ _ => eM162_59_k, fun _ _ => eM162_75_k, fun _ _ => eM162_141_k, fun _ _ => eM175_31_k, fun _ _ => eM175_75_k, fun F hF => absurd hF (by simp)⟩
theorem eB_k (i : Nat) (xs : List Int) (t : tab) : Kn (fun rc => eB rc i xs t) := by
  unfold eB
  cases e : eL[i]? with
  | none => exact Kn_c
  | some F => exact eL_k F (List.mem_of_getElem? e) xs t
noncomputable def eG : MRq := lim eB
theorem eG_120 {t : tab} {a0 a1 a2 : Int} : eG 0 [a0, a1, a2] t = eM120 eG a0 a1 a2 t := lim_eq eB_k 0 _ t
theorem eG_166 {t : tab} {a0 : Int} : eG 1 [a0] t = eM166 eG a0 t := lim_eq eB_k 1 _ t
theorem eG_164 {t : tab} {a0 a1 : Int} : eG 2 [a0, a1] t = eM164 eG a0 a1 t := lim_eq eB_k 2 _ t
theorem eG_167 {t : tab} {a0 : Int} : eG 3 [a0] t = eM167 eG a0 t := lim_eq eB_k 3 _ t
theorem eG_171 {t : tab} {a0 a1 a2 : Int} : eG 4 [a0, a1, a2] t = eM171 eG a0 a1 a2 t := lim_eq eB_k 4 _ t
theorem eG_172 {t : tab} {a0 : Int} : eG 5 [a0] t = eM172 eG a0 t := lim_eq eB_k 5 _ t
theorem eG_161 {t : tab} {a0 a1 a2 : Int} : eG 6 [a0, a1, a2] t = eM161 eG a0 a1 a2 t := lim_eq eB_k 6 _ t
theorem eG_168 {t : tab} {a0 a1 a2 : Int} : eG 7 [a0, a1, a2] t = eM168 eG a0 a1 a2 t := lim_eq eB_k 7 _ t
theorem eG_170 {t : tab} {a0 a1 a2 a3 : Int} : eG 8 [a0, a1, a2, a3] t = eM170 eG a0 a1 a2 a3 t := lim_eq eB_k 8 _ t
theorem eG_169 {t : tab} {a0 : Int} : eG 9 [a0] t = eM169 eG a0 t := lim_eq eB_k 9 _ t
theorem eG_163 {t : tab} {a0 : Int} : eG 10 [a0] t = eM163 eG a0 t := lim_eq eB_k 10 _ t
theorem eG_165 {t : tab} {a0 : Int} : eG 11 [a0] t = eM165 eG a0 t := lim_eq eB_k 11 _ t
theorem eG_162 {t : tab} {a0 : Int} : eG 12 [a0] t = eM162 eG a0 t := lim_eq eB_k 12 _ t
theorem eG_173 {t : tab} {a0 a1 : Int} : eG 13 [a0, a1] t = eM173 eG a0 a1 t := lim_eq eB_k 13 _ t
theorem eG_174 {t : tab} {a0 : Int} : eG 14 [a0] t = eM174 eG a0 t := lim_eq eB_k 14 _ t
theorem eG_176 {t : tab} {a0 : Int} : eG 15 [a0] t = eM176 eG a0 t := lim_eq eB_k 15 _ t
theorem eG_119 {t : tab} {a0 : Int} : eG 16 [a0] t = eM119 eG a0 t := lim_eq eB_k 16 _ t
theorem eG_175 {t : tab} {a0 : Int} : eG 17 [a0] t = eM175 eG a0 t := lim_eq eB_k 17 _ t
theorem eG_172_21 {t : tab} {a0 a1 a2 : Int} : eG 18 [a0, a1, a2] t = eM172_21 eG a0 a1 a2 t := lim_eq eB_k 18 _ t
theorem eG_169_27 {t : tab} {a0 a1 a2 a3 : Int} : eG 19 [a0, a1, a2, a3] t = eM169_27 eG a0 a1 a2 a3 t := lim_eq eB_k 19 _ t
theorem eG_169_36 {t : tab} {a0 a1 a2 a3 a4 : Int} : eG 20 [a0, a1, a2, a3, a4] t = eM169_36 eG a0 a1 a2 a3 a4 t := lim_eq eB_k 20 _ t
theorem eG_163_66 {t : tab} {a0 a1 : Int} : eG 21 [a0, a1] t = eM163_66 eG a0 a1 t := lim_eq eB_k 21 _ t
theorem eG_162_59 {t : tab} {a0 : Int} : eG 22 [a0] t = eM162_59 eG a0 t := lim_eq eB_k 22 _ t
theorem eG_162_75 {t : tab} {a0 a1 : Int} : eG 23 [a0, a1] t = eM162_75 eG a0 a1 t := lim_eq eB_k 23 _ t
theorem eG_162_141 {t : tab} {a0 a1 : Int} : eG 24 [a0, a1] t = eM162_141 eG a0 a1 t := lim_eq eB_k 24 _ t
theorem eG_175_31 {t : tab} {a0 a1 a2 : Int} : eG 25 [a0, a1, a2] t = eM175_31 eG a0 a1 a2 t := lim_eq eB_k 25 _ t
theorem eG_175_75 {t : tab} {a0 a1 a2 a3 a4 : Int} : eG 26 [a0, a1, a2, a3, a4] t = eM175_75 eG a0 a1 a2 a3 a4 t := lim_eq eB_k 26 _ t
def eT120 (K d C : Nat) : Prop := ∀ (s : rS) (t : tab) (x0 : Int) (x2 : Int) (x4 : Int), EE eP C t s → i64 x0 → i64 x2 → i64 x4 → pcr K d 120 [vl x0, vl x2, vl x4] s (MQx eP C 3 (eG 0 [x0, x2, x4] t))
def eT166 (K d C : Nat) : Prop := ∀ (s : rS) (t : tab) (x1 : Int), EE eP C t s → i32 x1 → pcr K d 166 [.ref 170, vi x1] s (MQx eP C 1 (eG 1 [x1] t))
def eT164 (K d C : Nat) : Prop := ∀ (s : rS) (t : tab) (x1 : Int) (x2 : Int), EE eP C t s → i32 x1 → i32 x2 → pcr K d 164 [.ref 170, vi x1, vi x2] s (MQx eP C 0 (eG 2 [x1, x2] t))
def eT167 (K d C : Nat) : Prop := ∀ (s : rS) (t : tab) (x1 : Int), EE eP C t s → i32 x1 → pcr K d 167 [.ref 170, vi x1] s (MQx eP C 1 (eG 3 [x1] t))
def eT171 (K d C : Nat) : Prop := ∀ (s : rS) (t : tab) (x1 : Int) (x2 : Int) (x3 : Int), EE eP C t s → i32 x1 → i32 x2 → i32 x3 → pcr K d 171 [.ref 170, vi x1, vi x2, vi x3] s (MQx eP C 0 (eG 4 [x1, x2, x3] t))
def eT172 (K d C : Nat) : Prop := ∀ (s : rS) (t : tab) (x1 : Int), EE eP C t s → i32 x1 → pcr K d 172 [.ref 170, vi x1] s (MQx eP C 1 (eG 5 [x1] t))
def eU172_0 (N K d C : Nat) : Prop := ∀ (s : rS) (t : tab) (y3 : Int) (y2 : Int) (y1 : Int), EE eP C t s → i32 y3 → i32 y2 → i32 y1 → pr N K d tb_M172 21 [(3, vi y3), (2, vi y2), (0, .ref 170), (1, vi y1)] [] s (MQx eP C 1 (eG 18 [y1, y2, y3] t))
def eA172 (N K d C : Nat) : Prop := eU172_0 N K d C
def eT161 (K d C : Nat) : Prop := ∀ (s : rS) (t : tab) (x1 : Int) (x2 : Int) (x3 : Int), EE eP C t s → i32 x1 → i32 x2 → i32 x3 → pcr K d 161 [.ref 170, vi x1, vi x2, vi x3] s (MQx eP C 0 (eG 6 [x1, x2, x3] t))
def eT168 (K d C : Nat) : Prop := ∀ (s : rS) (t : tab) (x0 : Int) (x1 : Int) (x2 : Int), EE eP C t s → i32 x0 → i32 x1 → i32 x2 → pcr K d 168 [vi x0, vi x1, vi x2] s (MQx eP C 1 (eG 7 [x0, x1, x2] t))
def eT170 (K d C : Nat) : Prop := ∀ (s : rS) (t : tab) (x1 : Int) (x2 : Int) (x3 : Int) (x4 : Int), EE eP C t s → i32 x1 → i32 x2 → i32 x3 → i32 x4 → pcr K d 170 [.ref 170, vi x1, vi x2, vi x3, vi x4] s (MQx eP C 0 (eG 8 [x1, x2, x3, x4] t))
def eT169 (K d C : Nat) : Prop := ∀ (s : rS) (t : tab) (x1 : Int), EE eP C t s → i32 x1 → pcr K d 169 [.ref 170, vi x1] s (MQx eP C 0 (eG 9 [x1] t))
def eU169_0 (N K d C : Nat) : Prop := ∀ (s : rS) (t : tab) (y4 : Int) (y3 : Int) (y2 : Int) (y1 : Int), EE eP C t s → i32 y4 → i32 y3 → i32 y2 → i32 y1 → pr N K d tb_M169 27 [(4, vi y4), (3, vi y3), (2, vi y2), (0, .ref 170), (1, vi y1)] [] s (MQx eP C 0 (eG 19 [y1, y2, y3, y4] t))
def eU169_1 (N K d C : Nat) : Prop := ∀ (s : rS) (t : tab) (y5 : Int) (y4 : Int) (y3 : Int) (y2 : Int) (y1 : Int), EE eP C t s → i32 y5 → i32 y4 → i32 y3 → i32 y2 → i32 y1 → pr N K d tb_M169 36 [(5, vi y5), (4, vi y4), (3, vi y3), (2, vi y2), (0, .ref 170), (1, vi y1)] [] s (MQx eP C 0 (eG 20 [y1, y2, y3, y4, y5] t))
def eU169_2 (N K d C : Nat) : Prop := ∀ (s : rS) (t : tab) (y4 : Int) (y5 : Int) (y3 : Int) (y2 : Int) (y1 : Int), EE eP C t s → i32 y4 → i32 y5 → i32 y3 → i32 y2 → i32 y1 → pr N K d tb_M169 27 [(4, vi y4), (5, vi y5), (3, vi y3), (2, vi y2), (0, .ref 170), (1, vi y1)] [] s (MQx eP C 0 (eG 19 [y1, y2, y3, y4] t))
def eA169 (N K d C : Nat) : Prop := eU169_0 N K d C ∧ eU169_1 N K d C ∧ eU169_2 N K d C
def eT163 (K d C : Nat) : Prop := ∀ (s : rS) (t : tab) (x1 : Int), EE eP C t s → i32 x1 → pcr K d 163 [.ref 170, vi x1] s (MQx eP C 3 (eG 10 [x1] t))
def eU163_0 (N K d C : Nat) : Prop := ∀ (s : rS) (t : tab) (y2 : Int) (y1 : Int), EE eP C t s → i32 y2 → i32 y1 → pr N K d tb_M163 66 [(2, vi y2), (0, .ref 170), (1, vi y1)] [] s (MQx eP C 3 (eG 21 [y1, y2] t))
def eA163 (N K d C : Nat) : Prop := eU163_0 N K d C
def eT165 (K d C : Nat) : Prop := ∀ (s : rS) (t : tab) (x1 : Int), EE eP C t s → i32 x1 → pcr K d 165 [.ref 170, vi x1] s (MQx eP C 0 (eG 11 [x1] t))
def eT162 (K d C : Nat) : Prop := ∀ (s : rS) (t : tab) (x1 : Int), EE eP C t s → i32 x1 → pcr K d 162 [.ref 170, vi x1] s (MQx eP C 1 (eG 12 [x1] t))
def eU162_0 (N K d C : Nat) : Prop := ∀ (s : rS) (t : tab) (y2 : Int) (y1 : Int), EE eP C t s → i32 y2 → i32 y1 → pr N K d tb_M162 59 [(2, vi y2), (0, .ref 170), (1, vi y1)] [] s (MQx eP C 1 (eG 22 [y2] t))
def eU162_1 (N K d C : Nat) : Prop := ∀ (s : rS) (t : tab) (y3 : Int) (y2 : Int) (y1 : Int), EE eP C t s → i32 y3 → i32 y2 → i32 y1 → pr N K d tb_M162 75 [(3, vi y3), (2, vi y2), (0, .ref 170), (1, vi y1)] [] s (MQx eP C 1 (eG 23 [y2, y3] t))
def eU162_2 (N K d C : Nat) : Prop := ∀ (s : rS) (t : tab) (y3 : Int) (y2 : Int) (y1 : Int), EE eP C t s → i32 y3 → i32 y2 → i32 y1 → pr N K d tb_M162 59 [(3, vi y3), (2, vi y2), (0, .ref 170), (1, vi y1)] [] s (MQx eP C 1 (eG 22 [y2] t))
def eU162_3 (N K d C : Nat) : Prop := ∀ (s : rS) (t : tab) (y2 : Int) (y3 : Int) (y1 : Int), EE eP C t s → i32 y2 → i32 y3 → i32 y1 → pr N K d tb_M162 141 [(2, vi y2), (3, vi y3), (0, .ref 170), (1, vi y1)] [] s (MQx eP C 1 (eG 24 [y2, y3] t))
def eA162 (N K d C : Nat) : Prop := eU162_0 N K d C ∧ eU162_1 N K d C ∧ eU162_2 N K d C ∧ eU162_3 N K d C
def eT173 (K d C : Nat) : Prop := ∀ (s : rS) (t : tab) (x1 : Int) (x2 : Int), EE eP C t s → i32 x1 → i32 x2 → pcr K d 173 [.ref 170, vi x1, vi x2] s (MQx eP C 1 (eG 13 [x1, x2] t))
def eT174 (K d C : Nat) : Prop := ∀ (s : rS) (t : tab) (x1 : Int), EE eP C t s → i32 x1 → pcr K d 174 [.ref 170, vi x1] s (MQx eP C 2 (eG 14 [x1] t))
def eT176 (K d C : Nat) : Prop := ∀ (s : rS) (t : tab) (x1 : Int), EE eP C t s → i32 x1 → pcr K d 176 [.ref 170, vi x1] s (MQx eP C 1 (eG 15 [x1] t))
def eT119 (K d C : Nat) : Prop := ∀ (s : rS) (t : tab) (x1 : Int), EE eP C t s → i32 x1 → pcr K d 119 [.ref 170, vi x1] s (MQx eP C 1 (eG 16 [x1] t))
def eT175 (K d C : Nat) : Prop := ∀ (s : rS) (t : tab) (x1 : Int), EE eP C t s → i32 x1 → pcr K d 175 [.ref 170, vi x1] s (MQx eP C 2 (eG 17 [x1] t))
def eU175_0 (N K d C : Nat) : Prop := ∀ (s : rS) (t : tab) (y3 : Int) (y2 : Int) (y1 : Int), EE eP C t s → i32 y3 → i32 y2 → i32 y1 → pr N K d tb_M175 31 [(3, vi y3), (2, vi y2), (0, .ref 170), (1, vi y1)] [] s (MQx eP C 2 (eG 25 [y1, y2, y3] t))
def eU175_1 (N K d C : Nat) : Prop := ∀ (s : rS) (t : tab) (y5 : Int) (y4 : Int) (y3 : Int) (y2 : Int) (y1 : Int), EE eP C t s → i32 y5 → i32 y4 → i32 y3 → i32 y2 → i32 y1 → pr N K d tb_M175 75 [(5, vi y5), (4, vi y4), (3, vi y3), (2, vi y2), (0, .ref 170), (1, vi y1)] [] s (MQx eP C 2 (eG 26 [y1, y2, y3, y4, y5] t))
def eU175_2 (N K d C : Nat) : Prop := ∀ (s : rS) (t : tab) (y3 : Int) (y5 : Int) (y4 : Int) (y2 : Int) (y1 : Int), EE eP C t s → i32 y3 → i32 y5 → i32 y4 → i32 y2 → i32 y1 → pr N K d tb_M175 31 [(3, vi y3), (5, vi y5), (4, vi y4), (2, vi y2), (0, .ref 170), (1, vi y1)] [] s (MQx eP C 2 (eG 25 [y1, y2, y3] t))
def eA175 (N K d C : Nat) : Prop := eU175_0 N K d C ∧ eU175_1 N K d C ∧ eU175_2 N K d C
