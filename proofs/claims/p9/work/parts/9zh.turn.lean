/-! A part's turn, as writes and pushes. -/
abbrev wrl : Type := List (Nat × Nat × Int)
def apw (ws : wrl) (s : tab) : tab := ws.foldl (fun s w => up2 s w.1 w.2.1 w.2.2) s
section APW
variable {s : tab} {a b : wrl}
theorem apw_nil : apw [] s = s := rfl
theorem apw_cons {w : Nat × Nat × Int} : apw (w :: a) s = apw a (up2 s w.1 w.2.1 w.2.2) := rfl
theorem apw_app : apw (a ++ b) s = apw b (apw a s) := by
  unfold apw
  exact List.foldl_append
theorem apw_o : ∀ (ws : wrl) (s : tab) (k j : Nat), (∀ w ∈ ws, ¬ (w.1 = k ∧ w.2.1 = j)) → apw ws s k j = s k j
  | [], _, _, _, _ => rfl
  | w :: ws, s, k, j, h => by
    rw [apw_cons, apw_o ws _ k j (fun v hv => h v (List.mem_cons_of_mem _ hv))]
    exact if_neg (fun q => h w List.mem_cons_self ⟨q.1.symm, q.2.symm⟩)
theorem up_cmx {k j k2 j2 : Nat} {x y : Int} (h : ¬ (k = k2 ∧ j = j2)) : up2 (up2 s k j x) k2 j2 y = up2 (up2 s k2 j2 y) k j x := by
  funext k3 j3
  by_cases e1 : k3 = k ∧ j3 = j
  · rw [e1.1, e1.2, up_self, show up2 (up2 s k j x) k2 j2 y k j = up2 s k j x k j from if_neg h, up_self]
  · by_cases e2 : k3 = k2 ∧ j3 = j2
    · rw [e2.1, e2.2, up_self, show up2 (up2 s k2 j2 y) k j x k2 j2 = up2 s k2 j2 y k2 j2 from if_neg (fun q => h ⟨q.1.symm, q.2.symm⟩), up_self]
    · exact ((if_neg e2).trans (if_neg e1)).trans ((if_neg e1).trans (if_neg e2)).symm
theorem apw_up : ∀ (ws : wrl) (s : tab) (k j : Nat) (x : Int), (∀ w ∈ ws, ¬ (w.1 = k ∧ w.2.1 = j)) → apw ws (up2 s k j x) = up2 (apw ws s) k j x
  | [], _, _, _, _, _ => rfl
  | w :: ws, s, k, j, x, h => by
    rw [apw_cons, apw_cons, up_cmx (fun q => h w List.mem_cons_self ⟨q.1.symm, q.2.symm⟩)]
    exact apw_up ws _ k j x (fun v hv => h v (List.mem_cons_of_mem _ hv))
theorem apw_comm : ∀ (a b : wrl) (s : tab), (∀ w ∈ a, ∀ v ∈ b, ¬ (w.1 = v.1 ∧ w.2.1 = v.2.1)) → apw a (apw b s) = apw b (apw a s)
  | [], _, _, _ => rfl
  | w :: a, b, s, h => by
    rw [apw_cons, apw_cons, ← apw_up b s _ _ _ (fun v hv q => h w List.mem_cons_self v hv ⟨q.1.symm, q.2.symm⟩)]
    exact apw_comm a b _ (fun v hv => h v (List.mem_cons_of_mem _ hv))
end APW
/-- 16 bits with sign; minus -/
def i2s (a : Int) : Int := (Int32.ofInt a).toInt16.toInt
def ing (a : Int) : Int := (-(Int32.ofInt a)).toInt
def tru (p : Prop) [Decidable p] : Int := if p then 1 else 0
def dvx (x y : Int) : Int := if y = 0 then 0 else (Int32.ofInt x / Int32.ofInt y).toInt
def rmx (x y : Int) : Int := if y = 0 then 0 else (Int32.ofInt x - Int32.ofInt x / Int32.ofInt y * Int32.ofInt y).toInt
/-- signs before one E, between two -/
def s1x (a v : Int) : Int := if a = 45 then ing v else if a = 126 then ixo v (-1) else tru (v = 0)
def s2x (a x y : Int) : Int :=
  if a = 31868 then tru (x ≠ 0 ∨ y ≠ 0) else if a = 9766 then tru (x ≠ 0 ∧ y ≠ 0) else if a = 124 then ior x y else if a = 94 then ixo x y else if a = 38 then ian x y
  else if a = 15677 then tru (x = y) else if a = 8509 then tru (x ≠ y) else if a = 60 then tru (x < y) else if a = 15421 then tru (x ≤ y) else if a = 62 then tru (y < x) else if a = 15933 then tru (y ≤ x)
  else if a = 15420 then isl x (ian y 31) else if a = 15934 then isr x (ian y 31) else if a = 43 then ipl x y else if a = 45 then imi x y else if a = 42 then imu x y else if a = 47 then dvx x y else rmx x y
def vax (s : tab) (x : Int) : Int := if 0 ≤ x ∧ x < s 99 12 then s 145 x.toNat else 0
def flx (s : tab) (x : Int) : Int := if 0 ≤ x ∧ x < s 99 12 then s 104 x.toNat else -1
def vrx (s : tab) (v : Int) : Int := if 0 ≤ v ∧ v < 24 then s 148 v.toNat else 0
def plx (s : tab) (r x : Int) : Int := if 0 ≤ r ∧ r < 6 ∧ 0 < s 111 r.toNat then ian x (imi (s 111 r.toNat) 1) else 0
def itx (s : tab) (r x : Int) : Int := if 0 ≤ r ∧ r < 6 then s 149 (r * 64 + plx s r x).toNat else 0
def pux (x : Int) : List Int := if 0 ≤ x ∧ x < 2000 then [x] else []
def awx (s : tab) (c p : Int) : wrl × List Int := if 0 ≤ c ∧ c < s 99 12 then ([(143, c.toNat, p), (144, c.toNat, -1)], pux c) else ([], [])
def twx (s : tab) (p v : Int) : wrl × List Int := if 0 ≤ p ∧ p < s 99 12 then ((145, p.toNat, v) :: (if s 143 p.toNat < 0 then [(142, 13, 1)] else []), pux (s 143 p.toNat)) else ([], [])
def otx (s : tab) (c p v : Int) : wrl × List Int := if 0 ≤ c then awx s c p else twx s p v
def cax (a b : wrl × List Int) : wrl × List Int := (a.1 ++ b.1, a.2 ++ b.2)
/-- a value for a target -/
def asx (s : tab) (g x v : Int) : wrl := if 0 ≤ g ∧ g < 24 then [(148, g.toNat, if s 110 g.toNat = 0 then i2s v else ian v (imi (isl 1 (s 110 g.toNat)) 1))] else if 24 ≤ g ∧ g < 30 then [(149, ((g - 24) * 64 + plx s (g - 24) x).toNat, i2s v)] else []
/-- E -/
def ewx (s : tab) (p : Nat) (u : Int) : wrl × List Int :=
  if s 100 p = 2 then twx s p (s 101 p)
  else if s 100 p = 400 then twx s p (vrx s (s 101 p))
  else if s 100 p = 403 then (if u < 2 then awx s (if u = 0 then s 102 p else s 103 p) p else twx s p (s2x (s 101 p) (vax s (s 102 p)) (vax s (s 103 p))))
  else if u = 0 then awx s (s 102 p) p else twx s p (if s 100 p = 401 then itx s (s 101 p) (vax s (s 102 p)) else s1x (s 101 p) (vax s (s 102 p)))
/-- the E's of a call into its parameters -/
def pwx (s : tab) (f : Int) : Nat → Int → Int → wrl
  | 0, _, _ => []
  | n + 1, i, x => asx s (f + i) 0 (vax s x) ++ pwx s f n (i + 1) (flx s x)
def fpx (s : tab) (r : Int) : Int := if 0 ≤ r ∧ r < 12 then s 113 r.toNat else 0
def bdx (s : tab) (r : Int) : Int := if 0 ≤ r ∧ r < 12 then s 114 r.toNat else -1
def cwx (s : tab) (p : Nat) (u : Int) : wrl × List Int :=
  if u < s 103 p then cax ([(146, p, if u = 0 then s 102 p else flx s (s 146 p))], []) (awx s (if u = 0 then s 102 p else flx s (s 146 p)) p)
  else if u = s 103 p then cax (pwx s (fpx s (s 101 p)) (s 103 p).toNat 0 (s 102 p) ++ [(146, p, bdx s (s 101 p))], []) (awx s (bdx s (s 101 p)) p)
  else cax ([(146, p, flx s (s 146 p))], []) (otx s (flx s (s 146 p)) p (vax s (s 146 p)))
/-- a value from one that sends to one that receives -/
def hox (s : tab) (a b v : Int) : wrl × List Int := if 0 ≤ b ∧ b < s 99 12 then cax ([(145, b.toNat, v), (147, b.toNat, 1)], pux b) (twx s a 0) else ([], [])
/-- the queue of an out, of an in -/
def qou (x : Int) : Nat := 162 + 2 * (x - 8).toNat
def qin (x : Int) : Nat := 154 + 2 * (x - 8).toNat
def swx (s : tab) (p : Nat) (x v : Int) : wrl × List Int :=
  if x < 0 ∨ 12 ≤ x then ([], [])
  else if 8 ≤ x then (if s (qou x) 2 < 40 then cax ([(qou x + 1, ((s (qou x) 1 + s (qou x) 2) % 40).toNat, i2s v), (qou x, 2, s (qou x) 2 + 1)], []) (twx s p 0) else ([(152, x.toNat, (p : Int))], []))
  else if 0 ≤ s 153 x.toNat then cax (hox s p (s 153 x.toNat) v) ([(153, x.toNat, -1)], []) else ([(152, x.toNat, (p : Int))], [])
def rwx (s : tab) (p : Nat) (x : Int) : wrl × List Int :=
  if x < 0 ∨ 12 ≤ x then ([], [])
  else if 8 ≤ x then (if 0 < s (qin x) 2 then ([(qin x, 1, (s (qin x) 1 + 1) % 40), (qin x, 2, s (qin x) 2 - 1), (145, p, s (qin x + 1) (s (qin x) 1).toNat), (147, p, 1)], pux (p : Int)) else ([(153, x.toNat, (p : Int))], []))
  else if 0 ≤ s 152 x.toNat then cax (hox s (s 152 x.toNat) p (vax s (s 102 (s 152 x.toNat).toNat))) ([(152, x.toNat, -1)], []) else ([(153, x.toNat, (p : Int))], [])
/-- without a subscript the first turn is as if one were done -/
def sgu (s : tab) (p : Nat) (u : Int) : Int := if s 103 p < 0 then u + 1 else u
/-- SET, SEND, RECEIVE -/
def mwx (s : tab) (p : Nat) (u : Int) : wrl × List Int :=
  if s 100 p = 406 then (if u = 0 then awx s (s 102 p) p else swx s p (s 101 p) (vax s (s 102 p)))
  else if sgu s p u = 0 then awx s (s 103 p) p
  else if s 100 p = 407 then rwx s p (s 101 p)
  else if sgu s p u = 1 then awx s (s 102 p) p
  else cax (asx s (s 101 p) (vax s (s 103 p)) (vax s (s 102 p)), []) (twx s p 0)
/-- the branches of a PAR begun -/
def bwx (s : tab) (p : Nat) : Nat → Int → wrl × List Int
  | 0, _ => ([], [])
  | n + 1, x => cax (awx s x p) (bwx s p n (flx s x))
/-- IF and the others -/
def gwx (s : tab) (p : Nat) (u : Int) : wrl × List Int :=
  if s 100 p = 308 then (if u = 0 then awx s (s 101 p) p else otx s (if u = 1 then (if vax s (s 101 p) ≠ 0 then s 102 p else s 103 p) else -1) p 0)
  else if s 100 p = 310 then (if u % 2 = 0 then awx s (s 101 p) p else otx s (if vax s (s 101 p) ≠ 0 then s 102 p else -1) p 0)
  else if s 100 p = 311 then otx s (if u < s 101 p then s 102 p else -1) p 0
  else if s 100 p = 408 then cax ([(146, p, if u = 0 then s 101 p else flx s (s 146 p))], []) (otx s (if u = 0 then s 101 p else flx s (s 146 p)) p 0)
  else if s 100 p = 312 then (if u = 0 then bwx s p (s 102 p).toNat (s 101 p) else if u = s 102 p then twx s p 0 else ([], []))
  else twx s p 0
/-- how often the part has been turned to -/
def trn (s : tab) (p : Nat) : Int := if s 144 p < 0 then 0 else s 144 p

/-- a value has been handed to it: it takes it -/
abbrev FGx (s : tab) (p : Nat) : Prop := s 100 p = 407 ∧ s 147 p ≠ 0
def fgx (s : tab) (p : Nat) : wrl × List Int := cax ((144, p, s 144 p) :: (147, p, 0) :: asx s (s 102 p) (vax s (s 103 p)) (s 145 p), []) (twx s p 0)
def Wrx (s : tab) (p : Nat) : wrl × List Int := if FGx s p then fgx s p else cax ([(144, p, trn s p + 1)], [])
  (if s 100 p = 2 ∨ s 100 p = 400 ∨ s 100 p = 401 ∨ s 100 p = 402 ∨ s 100 p = 403 then ewx s p (trn s p) else if s 100 p = 404 then cwx s p (trn s p) else if s 100 p = 405 ∨ s 100 p = 406 ∨ s 100 p = 407 then mwx s p (trn s p) else gwx s p (trn s p))
