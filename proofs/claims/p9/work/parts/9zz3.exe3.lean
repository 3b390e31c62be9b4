/-! A turn of our own Work: SET, SEND, RECEIVE. -/
section EXE3
variable {t t1 t2 z : tab} {p b : Nat} {u v x : Int}
theorem as_k {g y v : Int} : ∀ w ∈ asx z g y v, w.1 = 148 ∨ w.1 = 149 := fun w hw => by
  unfold asx at hw
  split at hw
  · simp only [List.mem_cons, List.not_mem_nil, or_false] at hw
    rw [hw]
    exact .inl rfl
  · split at hw
    · simp only [List.mem_cons, List.not_mem_nil, or_false] at hw
      rw [hw]
      exact .inr rfl
    · cases hw
/-- what was handed is taken -/
theorem fg_e (hk : z 100 b = 407) (h7 : z 147 b = 0) (h3 : z 103 b ≠ (b : Int)) (hb : (b : Int) < z 99 12) : apw (Wrx (up2 (up2 z 145 b v) 147 b 1) b).1 (up2 (up2 z 145 b v) 147 b 1) = apw (twx z b 0).1 (apw (asx z (z 102 b) (vax z (z 103 b)) v) z) ∧ (Wrx (up2 (up2 z 145 b v) 147 b 1) b).2 = (twx z b 0).2 := by
  obtain ⟨s1, hs1⟩ : ∃ s1, s1 = up2 (up2 z 145 b v) 147 b 1 := ⟨_, rfl⟩
  rw [← hs1]
  have o : ∀ k j, ¬ (k = 145 ∧ j = b) → ¬ (k = 147 ∧ j = b) → s1 k j = z k j := fun k j h1 h2 => by
    rw [hs1]
    exact (if_neg h2).trans (if_neg h1)
  have e7 : s1 147 b = 1 := by rw [hs1]; exact up_self
  have e5 : s1 145 b = v := by rw [hs1]; exact (if_neg (by omega)).trans up_self
  have hf : FGx s1 b := ⟨by rw [o 100 b (by omega) (by omega)]; exact hk, by rw [e7]; decide⟩
  have ev : vax s1 (z 103 b) = vax z (z 103 b) := by
    unfold vax
    rw [o 99 12 (by omega) (by omega)]
    split
    · rename_i q
      exact o 145 _ (fun e => h3 (by omega)) (by omega)
    · rfl
  have ea : asx s1 (s1 102 b) (vax s1 (s1 103 b)) (s1 145 b) = asx z (z 102 b) (vax z (z 103 b)) v := by
    rw [o 102 b (by omega) (by omega), o 103 b (by omega) (by omega), e5, ev]
    unfold asx plx
    rw [o 110 _ (by omega) (by omega), o 111 _ (by omega) (by omega)]
  have et : twx s1 (b : Int) 0 = twx z (b : Int) 0 := by
    unfold twx
    rw [o 99 12 (by omega) (by omega), Int.toNat_natCast, o 143 b (by omega) (by omega)]
  have eW : Wrx s1 b = cax ((144, b, z 144 b) :: (147, b, 0) :: asx z (z 102 b) (vax z (z 103 b)) v, []) (twx z (b : Int) 0) := by
    unfold Wrx
    rw [if_pos hf]
    unfold fgx
    rw [ea, et, o 144 b (by omega) (by omega)]
  rw [eW]
  refine ⟨?_, rfl⟩
  show apw (((144, b, z 144 b) :: (147, b, 0) :: asx z (z 102 b) (vax z (z 103 b)) v) ++ (twx z (b : Int) 0).1) s1 = _
  rw [apw_app, apw_cons, apw_cons]
  dsimp only
  have e1 : up2 (up2 s1 144 b (z 144 b)) 147 b 0 = up2 z 145 b v := by
    rw [← o 144 b (by omega) (by omega), up_id, hs1, up_up]
    have : up2 z 145 b v 147 b = 0 := (if_neg (by omega)).trans h7
    rw [← this, up_id]
  rw [e1, apw_up _ _ _ _ _ (fun w hw e => by
    have := as_k w hw
    omega)]
  unfold twx
  rw [if_pos ⟨Int.natCast_nonneg _, hb⟩]
  dsimp only
  rw [apw_cons, apw_cons, Int.toNat_natCast]
  dsimp only
  rw [up_up]
/-- queues are within their rows -/
def QBx (t : tab) : Prop := ∀ i, i < 4 → (0 ≤ t (154 + 2 * i) 1 ∧ t (154 + 2 * i) 1 < 40 ∧ 0 ≤ t (154 + 2 * i) 2 ∧ t (154 + 2 * i) 2 ≤ 40) ∧ 0 ≤ t (162 + 2 * i) 1 ∧ t (162 + 2 * i) 1 < 40 ∧ 0 ≤ t (162 + 2 * i) 2 ∧ t (162 + 2 * i) 2 ≤ 40
theorem rm_e {a c : Int} (h1 : 0 ≤ a ∧ a < 1000) (h2 : 0 ≤ c ∧ c < 1000) : rmw (ipl a c) 40 = (a + c) % 40 := by
  rw [ipl_e (by omega)]
  obtain ⟨n, hn⟩ : ∃ n : Nat, a + c = (n : Int) := ⟨(a + c).toNat, by omega⟩
  have e : rmw (n : Int) 40 = ((n % 40 : Nat) : Int) := rm_k (m := 40) (by omega) (by omega) (by omega)
  rw [hn, e]
  omega
theorem ex_snd (hq : QBx t) (hx : 0 ≤ x ∧ x < 12) (hn : ¬ (x < 8 ∧ 0 ≤ t 153 x.toNat)) : ∃ t2, wG 21 [(p : Int), x, v] t = some (some (0, t2)) ∧ EXR t t2 (swx (zp t) p x v) := by
  rw [wG_104]
  unfold wM104
  rw [if_neg (show ¬ x < 0 by omega), if_pos hx.2, show swx (zp t) p x v = _ from if_neg (show ¬ (x < 0 ∨ 12 ≤ x) by omega)]
  by_cases e1 : x < 8
  · rw [if_pos e1, if_neg (show ¬ 8 ≤ x by omega), if_pos (show t 153 x.toNat < 0 by omega), if_neg (show ¬ 0 ≤ zp t 153 x.toNat from by show ¬ 0 ≤ t 153 x.toNat; omega)]
    exact ⟨_, rfl, EX_w (by omega) (by omega)⟩
  · rw [if_neg e1, if_pos (show 8 ≤ x by omega)]
    have hb := (hq (x - 8).toNat (by omega)).2
    obtain ⟨q, hq0⟩ : ∃ q, q = qou x := ⟨_, rfl⟩
    have hq1 : 162 + 2 * (x - 8).toNat = q := by rw [hq0]; rfl
    have q2 : 162 ≤ q ∧ q ≤ 168 := by omega
    rw [hq1] at hb ⊢
    rw [← hq0]
    have zq : ∀ j, zp t q j = t q j := fun j => zp_o (by omega)
    rw [zq, zq]
    unfold qaz qad
    rw [Int.toNat_natCast]
    by_cases e2 : t q 2 < 40
    · rw [if_pos e2, if_pos e2, if_pos e2, if_neg (by decide)]
      have e3 : up2 t (q + 1) (rmw (ipl (t q 1) (t q 2)) 40).toNat (i2s v) q 2 = t q 2 := if_neg (by omega)
      rw [e3, rm_e (by omega) (by omega), ipl_e (by omega)]
      refine ⟨_, rfl, ?_⟩
      refine EX_app (A := ([(q + 1, ((t q 1 + t q 2) % 40).toNat, i2s v), (q, 2, t q 2 + 1)], [])) (EX_app (A := ([(q + 1, ((t q 1 + t q 2) % 40).toNat, i2s v)], [])) (EX_w (by omega) (by omega)) (EX_w (by omega) (by omega))) ?_
      have := ex_tl (t := up2 (up2 t (q + 1) ((t q 1 + t q 2) % 40).toNat (i2s v)) q 2 (t q 2 + 1)) (p := (p : Int)) (v := 0)
      have ew : twx (zp (up2 (up2 t (q + 1) ((t q 1 + t q 2) % 40).toNat (i2s v)) q 2 (t q 2 + 1))) (p : Int) 0 = twx (zp t) (p : Int) 0 := by
        unfold twx
        rw [show ∀ j, zp (up2 (up2 t (q + 1) ((t q 1 + t q 2) % 40).toNat (i2s v)) q 2 (t q 2 + 1)) 143 j = zp t 143 j from fun j => (if_neg (by omega)).trans ((if_neg (by omega)).trans ((if_neg (by omega)).trans (if_neg (by omega)).symm)), show zp (up2 (up2 t (q + 1) ((t q 1 + t q 2) % 40).toNat (i2s v)) q 2 (t q 2 + 1)) 99 12 = zp t 99 12 from (if_neg (by omega)).trans ((if_neg (by omega)).trans ((if_neg (by omega)).trans (if_neg (by omega)).symm))]
      rw [ew] at this
      exact this
    · rw [if_neg e2, if_neg e2, if_neg e2, if_pos rfl]
      exact ⟨_, rfl, EX_w (by omega) (by omega)⟩
theorem ex_rcv (hx : 0 ≤ x ∧ x < 12) (h1 : x < 8 → t 152 x.toNat < 0) (h2 : 8 ≤ x → t (qin x) 2 ≤ 0) : ∃ t2, wG 22 [(p : Int), x] t = some (some (0, t2)) ∧ EXR t t2 (rwx (zp t) p x) := by
  rw [wG_107]
  unfold wM107
  rw [if_neg (show ¬ x < 0 by omega), if_pos hx.2, show rwx (zp t) p x = _ from if_neg (show ¬ (x < 0 ∨ 12 ≤ x) by omega)]
  by_cases e1 : x < 8
  · rw [if_pos e1, if_neg (show ¬ 8 ≤ x by omega), if_pos (h1 e1), if_neg (show ¬ 0 ≤ zp t 152 x.toNat from by have := h1 e1; show ¬ 0 ≤ t 152 x.toNat; omega)]
    exact ⟨_, rfl, EX_w (by omega) (by omega)⟩
  · have h2 := h2 (by omega)
    have e2 : zp t (qin x) 2 = t (qin x) 2 := zp_o (by unfold qin; omega)
    rw [if_neg e1, if_pos (show 8 ≤ x by omega), if_pos (show t (154 + 2 * (x - 8).toNat) 2 ≤ 0 from h2), if_neg (by rw [e2]; omega)]
    exact ⟨_, rfl, EX_w (by omega) (by omega)⟩
end EXE3
