/-! A turn of our own Work is a turn of the parts machine. -/
section EXE1
variable {t t1 t2 : tab} {A B W : wrl × List Int} {x v p c g u : Int}
/-- without the stack of ready parts -/
def zp (t : tab) : tab := fun k j => if k = 147 ∨ k = 142 ∧ j ≠ 13 then 0 else t k j
theorem zp_o {k j : Nat} (h : ¬ (k = 147 ∨ k = 142 ∧ j ≠ 13)) : zp t k j = t k j := if_neg h
theorem zp_n {k j : Nat} {v : Int} (h : k = 147 ∨ k = 142 ∧ j ≠ 13) : zp (up2 t k j v) = zp t := by
  funext k2 j2
  by_cases e : k2 = 147 ∨ k2 = 142 ∧ j2 ≠ 13
  · exact (if_pos e).trans (if_pos e).symm
  · rw [zp_o e, zp_o e]
    exact if_neg (fun q => e (by rw [q.1, q.2]; exact h))
theorem zp_u {k j : Nat} {v : Int} (h : ¬ (k = 147 ∨ k = 142 ∧ j ≠ 13)) : zp (up2 t k j v) = up2 (zp t) k j v := by
  funext k2 j2
  by_cases q : k2 = k ∧ j2 = j
  · rw [q.1, q.2, zp_o h, up_self, up_self]
  · rw [show up2 (zp t) k j v k2 j2 = zp t k2 j2 from if_neg q]
    by_cases e : k2 = 147 ∨ k2 = 142 ∧ j2 ≠ 13
    · exact (if_pos e).trans (if_pos e).symm
    · rw [zp_o e, zp_o e]
      exact if_neg q
/-- the top l.length + 1 items of a row, the last one first -/
def LSx (f : Nat → Int) : List Int → Prop
  | [] => True
  | v :: l => f l.length = v ∧ LSx f l
theorem LS_e {f g : Nat → Int} : ∀ l : List Int, (∀ i, i < l.length → g i = f i) → LSx f l → LSx g l
  | [], _, _ => trivial
  | v :: l, h, k => ⟨(h _ (Nat.lt_succ_self _)).trans k.1, LS_e l (fun i hi => h i (Nat.lt_succ_of_lt hi)) k.2⟩
def SKx (t : tab) (l : List Int) : Prop := t 142 6 = (l.length : Int) ∧ LSx (t 147) l
theorem SK_o {l : List Int} (h : SKx t l) (h1 : t2 142 6 = t 142 6) (h2 : ∀ j, t2 147 j = t 147 j) : SKx t2 l := ⟨h1.trans h.1, LS_e l (fun i _ => h2 i) h.2⟩
/-- t2 is t with W's writes and pushes -/
def EXR (t t2 : tab) (W : wrl × List Int) : Prop :=
  (t 142 13 = 0 ∨ t 142 13 = 1 → zp t2 = apw W.1 (zp t) ∧ (t2 142 13 = 0 ∨ t2 142 13 = 1)) ∧ (t2 142 14 = t 142 14 ∧ t2 142 15 = t 142 15) ∧ ∀ l, SKx t l → l.length + W.2.length ≤ 2000 → SKx t2 (W.2.reverse ++ l)
theorem EX_nil : EXR t t ([], []) := ⟨fun h => ⟨rfl, h⟩, ⟨rfl, rfl⟩, fun _ h _ => h⟩
theorem EX_app (h1 : EXR t t1 A) (h2 : EXR t1 t2 B) : EXR t t2 (cax A B) := by
  refine ⟨fun h => ?_, ⟨h2.2.1.1.trans h1.2.1.1, h2.2.1.2.trans h1.2.1.2⟩, fun l hl hn => ?_⟩
  · obtain ⟨a1, a2⟩ := h1.1 h
    obtain ⟨b1, b2⟩ := h2.1 a2
    exact ⟨by rw [b1, a1]; exact apw_app.symm, b2⟩
  · have hn : l.length + (A.2 ++ B.2).length ≤ 2000 := hn
    rw [List.length_append] at hn
    have a := h1.2.2 l hl (by omega)
    have b := h2.2.2 _ a (by rw [List.length_append, List.length_reverse]; omega)
    show SKx t2 ((A.2 ++ B.2).reverse ++ l)
    rw [List.reverse_append, List.append_assoc]
    exact b
theorem EX_w {k j : Nat} {v : Int} (h1 : k ≠ 147) (h2 : k ≠ 142) : EXR t (up2 t k j v) ([(k, j, v)], []) := by
  have o : ∀ k2 j2, k2 ≠ k → up2 t k j v k2 j2 = t k2 j2 := fun k2 j2 h => if_neg (fun q => h q.1)
  refine ⟨fun h => ⟨zp_u (by omega), by rw [o 142 13 (fun q => h2 q.symm)]; exact h⟩, ⟨o _ _ (fun q => h2 q.symm), o _ _ (fun q => h2 q.symm)⟩, fun l hl _ => ?_⟩
  exact SK_o hl (o _ _ (fun q => h2 q.symm)) (fun j => o _ _ (fun q => h1 q.symm))
theorem EX_ps : EXR t (psw t x) ([], pux x) := by
  by_cases h : 0 ≤ x ∧ x < 2000 ∧ 0 ≤ t 142 6 ∧ t 142 6 < 2000
  · have e : psw t x = up2 (up2 t 147 (t 142 6).toNat x) 142 6 (ipl (t 142 6) 1) := if_pos h
    have e2 : pux x = [x] := if_pos ⟨h.1, h.2.1⟩
    rw [e, e2]
    have o : ∀ j, j ≠ 6 → up2 (up2 t 147 (t 142 6).toNat x) 142 6 (ipl (t 142 6) 1) 142 j = t 142 j := fun j hj => (if_neg (fun q => hj q.2)).trans (if_neg (by omega))
    refine ⟨fun w => ⟨(zp_n (by omega)).trans (zp_n (by omega)), by rw [o 13 (by omega)]; exact w⟩, ⟨o 14 (by omega), o 15 (by omega)⟩, fun l hl hn => ?_⟩
    have h6 := hl.1
    have ht : (t 142 6).toNat = l.length := by omega
    refine ⟨?_, ?_, ?_⟩
    · rw [up_self, ipl_e (by omega), h6]
      show (l.length : Int) + 1 = ((x :: l).length : Int)
      rw [List.length_cons]
      omega
    · show up2 (up2 t 147 (t 142 6).toNat x) 142 6 (ipl (t 142 6) 1) 147 l.length = x
      rw [show up2 (up2 t 147 (t 142 6).toNat x) 142 6 (ipl (t 142 6) 1) 147 l.length = up2 t 147 (t 142 6).toNat x 147 l.length from if_neg (by omega), ht]
      exact up_self
    · show LSx _ l
      refine LS_e l (fun i hi => ?_) hl.2
      exact (if_neg (by omega)).trans (if_neg (by omega))
  · have e : psw t x = t := if_neg h
    rw [e]
    refine ⟨fun w => ⟨rfl, w⟩, ⟨rfl, rfl⟩, fun l hl hn => ?_⟩
    have h6 := hl.1
    by_cases q : 0 ≤ x ∧ x < 2000
    · have e2 : pux x = [x] := if_pos q
      rw [e2] at hn
      have hn : l.length + 1 ≤ 2000 := hn
      exact absurd ⟨q.1, q.2, by omega, by omega⟩ h
    · have e2 : pux x = [] := if_neg q
      rw [e2]
      exact hl
theorem ex_ak : EXR t (akw t c p) (awx (zp t) c p) := by
  unfold akw awx
  rw [show zp t 99 12 = t 99 12 from rfl]
  by_cases h : 0 ≤ c ∧ c < t 99 12
  · rw [if_pos h, if_pos h]
    exact EX_app (A := ([(143, c.toNat, p), (144, c.toNat, -1)], [])) (EX_app (A := ([(143, c.toNat, p)], [])) (EX_w (by omega) (by omega)) (EX_w (by omega) (by omega))) EX_ps
  · rw [if_neg h, if_neg h]
    exact EX_nil
theorem ior_00 (h : x = 0 ∨ x = 1) : ior x 0 = x := by rcases h with rfl | rfl <;> decide
theorem ior_11 (h : x = 0 ∨ x = 1) : ior x 1 = 1 := by rcases h with rfl | rfl <;> decide
theorem cax_n {a : wrl} {b : List Int} : cax (a, []) ([], b) = (a, b) := by
  unfold cax
  rw [List.append_nil, List.nil_append]
theorem ex_tl : EXR t (tlw t p v) (twx (zp t) p v) := by
  unfold tlw twx
  rw [show zp t 99 12 = t 99 12 from rfl, show zp t 143 p.toNat = t 143 p.toNat from rfl]
  by_cases h : 0 ≤ p ∧ p < t 99 12
  · rw [if_pos h, if_pos h]
    rw [← cax_n]
    refine EX_app (A := ((145, p.toNat, v) :: (if t 143 p.toNat < 0 then [(142, 13, 1)] else []), [])) (t1 := up2 (up2 t 145 p.toNat v) 142 13 (ior (t 142 13) (if 0 ≤ t 143 p.toNat then 0 else 1))) ?_ EX_ps
    refine EX_app (A := ([(145, p.toNat, v)], [])) (B := ((if t 143 p.toNat < 0 then [(142, 13, 1)] else []), [])) (EX_w (by omega) (by omega)) ?_
    have e13 : up2 t 145 p.toNat v 142 13 = t 142 13 := if_neg (by omega)
    have o : ∀ {z : Int} j, j ≠ 13 → up2 (up2 t 145 p.toNat v) 142 13 z 142 j = up2 t 145 p.toNat v 142 j := fun j hj => if_neg (fun q => hj q.2)
    refine ⟨fun w => ?_, ⟨o 14 (by omega), o 15 (by omega)⟩, fun l hl _ => SK_o hl (o 6 (by omega)) (fun j => if_neg (by omega))⟩
    rw [e13] at w
    by_cases q : 0 ≤ t 143 p.toNat
    · rw [if_pos q, if_neg (by omega), ior_00 w, up_self]
      refine ⟨?_, w⟩
      rw [zp_u (by omega)]
      show up2 (zp (up2 t 145 p.toNat v)) 142 13 (t 142 13) = zp (up2 t 145 p.toNat v)
      have : zp (up2 t 145 p.toNat v) 142 13 = t 142 13 := (zp_o (by omega)).trans e13
      rw [← this, up_id]
    · rw [if_neg q, if_pos (by omega), ior_11 w, up_self]
      exact ⟨zp_u (by omega), .inr rfl⟩
  · rw [if_neg h, if_neg h]
    exact EX_nil
theorem ex_ot : EXR t (otw t c p v) (otx (zp t) c p v) := by
  unfold otw otx
  by_cases h : c < 0
  · rw [if_pos h, if_neg (by omega)]
    exact ex_tl
  · rw [if_neg h, if_pos (by omega)]
    exact ex_ak
theorem pl_z {r x : Int} : plx (zp t) r x = plx t r x := rfl
theorem ix_e (hz : SZx (zp t)) {r x : Int} (hr : 0 ≤ r ∧ r < 6) : ipl (imu r 64) (plx t r x) = r * 64 + plx t r x := by
  have h := plx_r hz (r := r) (x := x)
  rw [pl_z] at h
  have e : imu r 64 = r * 64 := by
    unfold imu
    rw [i32_mul, i32_to (by omega) (by omega)]
  rw [e, ipl_e (by omega)]
theorem it_z (hz : SZx (zp t)) {r x : Int} : itw t r x = itx (zp t) r x := by
  unfold itw itx
  by_cases h : 0 ≤ r ∧ r < 6
  · rw [if_pos h, if_pos h, ix_e hz h]
    rfl
  · rw [if_neg h, if_neg h]
theorem ex_as (hz : SZx (zp t)) (hg : 0 ≤ g ∧ g < 30) : EXR t (asw t g x v) (asx (zp t) g x v, []) := by
  unfold asw asx
  rw [show zp t 110 g.toNat = t 110 g.toNat from rfl]
  by_cases h : 0 ≤ g ∧ g < 24
  · rw [if_pos h, if_pos h]
    exact EX_w (by omega) (by omega)
  · have e : imi g 24 = g - 24 := imi_e (by omega)
    rw [if_neg h, if_neg h, e, if_pos (by omega), if_pos (by omega), ix_e hz (by omega), pl_z]
    exact EX_w (by omega) (by omega)
end EXE1
