/-! The two tables side by side: s ours, t the reference's. -/
theorem lo_comm (a b : Int) : lo a b = lo b a := by
  unfold lo
  rw [Int64.or_comm]
theorem lo_assoc (a b c : Int) : lo (lo a b) c = lo a (lo b c) := by
  unfold lo
  rw [Int64.ofInt_toInt, Int64.ofInt_toInt, Int64.or_assoc]
theorem lo_lc (a b c : Int) : lo a (lo b c) = lo b (lo a c) := by
  rw [← lo_assoc, lo_comm a b, lo_assoc]
theorem lo_zero (a b : Int) : lo 0 (lo a b) = lo a b := by
  unfold lo
  rw [Int64.ofInt_toInt, show Int64.ofInt 0 = 0 from rfl, Int64.zero_or]
theorem lo_idem (a b : Int) : lo a (lo a b) = lo a b := by
  unfold lo
  rw [Int64.ofInt_toInt, ← Int64.or_assoc, Int64.or_self]
theorem lsl_lo (a b k : Int) : lsl (lo a b) k = lo (lsl a k) (lsl b k) := by
  unfold lsl lo
  rw [Int64.ofInt_toInt, Int64.ofInt_toInt, Int64.ofInt_toInt]
  congr 1
  apply Int64.toBitVec_inj.mp
  simp only [Int64.toBitVec_shiftLeft, Int64.toBitVec_or]
  exact BitVec.shiftLeft_or_distrib _ _ _
theorem lo_0m (x y b : Int) : lo (lo x y) (lo 0 b) = lo x (lo y b) := by
  rw [lo_assoc, lo_lc y 0 b, lo_lc x 0, lo_zero]
/-- three small masks -/
def MB3 (a b c : Int) : Prop := (0 ≤ a ∧ a < 4096) ∧ (0 ≤ b ∧ b < 4096) ∧ (0 ≤ c ∧ c < 4096)
theorem lo_nat {m k : Nat} (hm : m < 2 ^ 62) (hk : k < 2 ^ 62) : lo (m : Int) (k : Int) = ((m ||| k : Nat) : Int) := by
  unfold lo
  have := Nat.or_lt_two_pow hm hk
  rw [l_or, i64_to (by omega) (by omega)]
theorem lo_4k {a b : Int} (ha : 0 ≤ a ∧ a < 4096) (hb : 0 ≤ b ∧ b < 4096) : 0 ≤ lo a b ∧ lo a b < 4096 := by
  obtain ⟨m, rfl⟩ : ∃ m : Nat, a = (m : Int) := ⟨a.toNat, by omega⟩
  obtain ⟨k, rfl⟩ : ∃ k : Nat, b = (k : Int) := ⟨b.toNat, by omega⟩
  have := Nat.or_lt_two_pow (show m < 2 ^ 12 by omega) (show k < 2 ^ 12 by omega)
  rw [lo_nat (by omega) (by omega)]
  omega
theorem lsl_4k : ∀ m : Fin 12, 0 ≤ lsl 1 ((m : Nat) : Int) ∧ lsl 1 ((m : Nat) : Int) < 4096 := by decide
theorem lsl_4x {m : Int} (h : 0 ≤ m ∧ m < 12) : 0 ≤ lsl 1 m ∧ lsl 1 m < 4096 := by
  have := lsl_4k ⟨m.toNat, by omega⟩
  rw [show (((⟨m.toNat, by omega⟩ : Fin 12) : Nat) : Int) = m by show ((m.toNat : Nat) : Int) = m; omega] at this
  exact this
theorem MB_lo {a b c a2 b2 c2 : Int} (h : MB3 a b c) (h2 : MB3 a2 b2 c2) : MB3 (lo a a2) (lo b b2) (lo c c2) := ⟨lo_4k h.1 h2.1, lo_4k h.2.1 h2.2.1, lo_4k h.2.2 h2.2.2⟩
/-- what but one branch may do, of three masks -/
def pkm (a b c : Int) : Int := lo a (lo (lsl b 12) (lsl c 24))
theorem pkm_lo (a b c a2 b2 c2 : Int) : pkm (lo a a2) (lo b b2) (lo c c2) = lo (pkm a b c) (pkm a2 b2 c2) := by
  unfold pkm
  rw [lsl_lo, lsl_lo]
  simp only [lo_assoc, lo_comm, lo_lc]
/-- a bit of a mask -/
def mbt (m : Int) (v : Nat) : Prop := (Int64.ofInt m).toBitVec.getLsbD v = true
theorem mbt_lo {a b : Int} {v : Nat} : mbt (lo a b) v ↔ mbt a v ∨ mbt b v := by
  unfold mbt lo
  rw [Int64.ofInt_toInt, Int64.toBitVec_or, BitVec.getLsbD_or, Bool.or_eq_true]
theorem mbt_0 {v : Nat} : ¬ mbt 0 v := by
  unfold mbt
  rw [show (Int64.ofInt 0).toBitVec = 0#64 from rfl, BitVec.getLsbD_zero]
  decide
theorem mbt_1 : ∀ (k : Fin 36) (v : Fin 64), (Int64.ofInt (lsl 1 ((k : Nat) : Int))).toBitVec.getLsbD v = decide ((k : Nat) = v) := by decide
theorem mbt_l {k : Int} {v : Nat} (h : 0 ≤ k ∧ k < 36) : mbt (lsl 1 k) v ↔ (v : Int) = k := by
  unfold mbt
  by_cases hv : v < 64
  · have := mbt_1 ⟨k.toNat, by omega⟩ ⟨v, hv⟩
    rw [show (((⟨k.toNat, by omega⟩ : Fin 36) : Nat) : Int) = k by show ((k.toNat : Nat) : Int) = k; omega] at this
    rw [this, decide_eq_true_eq]
    show k.toNat = v ↔ _
    omega
  · rw [BitVec.getLsbD_of_ge _ _ (by omega)]
    exact ⟨fun q => absurd q (by decide), fun q => by omega⟩
/-- what may be touched, by masks -/
def cxm (P : Nat → Prop) (A U S R K : Int) : Cxx := (P, (fun v => mbt U v ∨ mbt A v), (fun v => mbt A v), fun k => (k < 12 ∧ mbt S k) ∨ (12 ≤ k ∧ k < 24 ∧ mbt R (k - 12)) ∨ (24 ≤ k ∧ mbt K (k - 24)))
/-- ghosts: masks of ours that came before; routines; where their parts end; how far behind that the branch began -/
abbrev Gtt : Type := Int × Int × Int × Gmx × Nat × Nat
/-- parts of a routine's own: of no earlier one -/
def ownx (G : Gmx) (r z : Nat) : Prop := (G.2.1 r).1 z ∧ ∀ j, j < r → ¬ (G.2.1 j).1 z
theorem own_in1 {G : Gmx} {r r2 z : Nat} (h : ownx G r z) (k : ownx G r2 z) : r = r2 := by
  rcases Nat.lt_trichotomy r r2 with q | q | q
  · exact absurd h.1 (k.2 r q)
  · exact q
  · exact absurd k.1 (h.2 r2 q)
def cxt (g : Gtt) (s t : tab) : Cxx := cxm (fun z => (g.2.2.2.2.1 + g.2.2.2.2.2 ≤ z ∧ (z : Int) < s 99 12) ∨ ∃ r, mbt (t 170 26) r ∧ ownx g.2.2.2.1 r z) (t 170 22) (t 170 23) (t 170 24) (t 170 25) (t 170 26)
theorem cxt_au {g : Gtt} {s t : tab} : AUx (cxt g s t) := fun _ q => .inr q
/-- masks grow -/
def MGx (t t2 : tab) : Prop := ∀ j, 22 ≤ j → j ≤ 26 → ∀ v, mbt (t 170 j) v → mbt (t2 170 j) v
theorem cxt_sb {g : Gtt} {s t s2 t2 : tab} (h : s 99 12 ≤ s2 99 12) (hm : MGx t t2) : SBx (cxt g s t) (cxt g s2 t2) := by
  refine ⟨fun z q => ?_, fun v q => q.imp (hm 23 (by omega) (by omega) v) (hm 22 (by omega) (by omega) v), fun v q => hm 22 (by omega) (by omega) v q, fun k q => ?_⟩
  · rcases q with q | ⟨r, q1, q2⟩
    · exact .inl ⟨q.1, by have := q.2; omega⟩
    · exact .inr ⟨r, hm 26 (by omega) (by omega) r q1, q2⟩
  · rcases q with ⟨q1, q2⟩ | ⟨q1, q2, q3⟩ | ⟨q1, q2⟩
    · exact .inl ⟨q1, hm 24 (by omega) (by omega) _ q2⟩
    · exact .inr (.inl ⟨q1, q2, hm 25 (by omega) (by omega) _ q3⟩)
    · exact .inr (.inr ⟨q1, hm 26 (by omega) (by omega) _ q2⟩)
/-- variables and arrays that are declared -/
def bnd (s : tab) (v : Nat) : Prop := (v < 24 → (v : Int) < s 109 0) ∧ (24 ≤ v → (v : Int) < 24 + s 109 1)
theorem bnd_m {s s2 : tab} {v : Nat} (h0 : s 109 0 ≤ s2 109 0) (h1 : s 109 1 ≤ s2 109 1) (h : bnd s v) : bnd s2 v := ⟨fun q => Int.lt_of_lt_of_le (h.1 q) h0, fun q => by have := h.2 q; omega⟩
/-- a routine that is known -/
def RVx (G : Gmx) (a0 : Nat) (s t : tab) (r : Nat) : Prop := t 200 r = G.1 r ∧ t 202 r = s 113 r ∧ (∃ P, G.2.1 r = cxm P (t 195 r) (t 196 r) (t 197 r) (t 198 r) (t 199 r)) ∧ mbt (t 199 r) r ∧ (∀ k, mbt (t 199 r) k → k ≤ r ∧ ∀ z, ownx G k z → z < a0) ∧ (∀ z, (G.2.1 r).1 z → z < a0 ∧ ∃ k, mbt (t 199 r) k ∧ ownx G k z) ∧ 0 ≤ s 113 r ∧ 0 ≤ s 112 r ∧ s 112 r ≤ 4 ∧ s 113 r + s 112 r ≤ 24 ∧ (∀ i : Nat, (i : Int) < s 112 r → (G.2.1 r).2.2.1 ((s 113 r).toNat + i)) ∧ (∀ v : Nat, mbt (t 195 r) v ∨ mbt (t 196 r) v → bnd s v) ∧ (G.2.2 r → ∀ v : Nat, ¬ mbt (t 197 r) v ∧ ¬ mbt (t 198 r) v)
/-- a routine that may be called -/
def KNx (g : Gtt) (s : tab) (k : Nat) : Prop := (k : Int) < s 109 5 ∧ ∀ z, ownx g.2.2.2.1 k z → z < g.2.2.2.2.1
/-- masks: what is called is known, what is used is declared, in a fun nothing is sent or received -/
def MKr (g : Gtt) (s : tab) (A U S R K F : Int) : Prop := (∀ k : Nat, mbt K k → KNx g s k) ∧ (∀ v : Nat, mbt A v ∨ mbt U v → bnd s v) ∧ (F ≠ 0 → ∀ v : Nat, ¬ mbt S v ∧ ¬ mbt R v)
def MKx (g : Gtt) (s t : tab) : Prop := MKr g s (t 170 22) (t 170 23) (t 170 24) (t 170 25) (t 170 26) (t 170 37) ∧ (0 ≤ s 131 13 → s 113 (s 131 13).toNat + s 112 (s 131 13).toNat ≤ s 109 0)
theorem MK_e {g : Gtt} {s t t2 : tab} (h : MKx g s t) (hm : ∀ j, 22 ≤ j → j ≤ 26 → t2 170 j = t 170 j) (h7 : t2 170 37 = t 170 37) : MKx g s t2 := by
  unfold MKx at h ⊢
  rw [hm 22 (by omega) (by omega), hm 23 (by omega) (by omega), hm 24 (by omega) (by omega), hm 25 (by omega) (by omega), hm 26 (by omega) (by omega), h7]
  exact h
theorem MKr_mv {g g2 : Gtt} {s s2 : tab} {A U S R K F : Int} (h : MKr g s A U S R K F) (hg1 : g2.2.2.2.1 = g.2.2.2.1) (hg2 : g2.2.2.2.2.1 = g.2.2.2.2.1) (h5 : s2 109 5 = s 109 5) (h0 : s 109 0 ≤ s2 109 0) (h1 : s 109 1 ≤ s2 109 1) : MKr g2 s2 A U S R K F := ⟨fun k q => ⟨by rw [h5]; exact (h.1 k q).1, fun z w => by rw [hg2]; exact (h.1 k q).2 z (by rw [← hg1]; exact w)⟩, fun v q => bnd_m h0 h1 (h.2.1 v q), h.2.2⟩
theorem MKr_lo {g : Gtt} {s : tab} {A U S R K A2 U2 S2 R2 K2 F : Int} (h : MKr g s A U S R K F) (k : MKr g s A2 U2 S2 R2 K2 F) : MKr g s (lo A A2) (lo U U2) (lo S S2) (lo R R2) (lo K K2) F := by
  refine ⟨fun j q => (mbt_lo.mp q).elim (h.1 j) (k.1 j), fun v q => ?_, fun hf v => ⟨fun q => (mbt_lo.mp q).elim (h.2.2 hf v).1 (k.2.2 hf v).1, fun q => (mbt_lo.mp q).elim (h.2.2 hf v).2 (k.2.2 hf v).2⟩⟩
  rcases q with q | q
  · rcases mbt_lo.mp q with q | q
    · exact h.2.1 v (.inl q)
    · exact k.2.1 v (.inl q)
  · rcases mbt_lo.mp q with q | q
    · exact h.2.1 v (.inr q)
    · exact k.2.1 v (.inr q)
def IVx (g : Gtt) (s t : tab) : Prop :=
  (0 ≤ s 99 12 ∧ s 99 12 + s 131 6 ≤ s 137 5 ∧ 0 ≤ t 177 1 ∧ t 177 1 ≤ 12 * s 137 5 ∧ 0 ≤ t 177 10 ∧ t 177 10 ≤ s 137 5 ∧ ((g.2.2.2.2.1 + g.2.2.2.2.2 : Nat) : Int) ≤ s 99 12) ∧
  MKx g s t ∧
  (∀ j : Nat, (j : Int) < s 105 3 → (s 107 j = 6 → g.2.2.2.1.2.2 (s 108 j).toNat) ∧ (s 107 j = 5 → ¬ g.2.2.2.1.2.2 (s 108 j).toNat)) ∧
  ∀ r : Nat, (r : Int) < s 109 5 → (r : Int) ≠ s 131 13 → RVx g.2.2.2.1 g.2.2.2.2.1 s t r
section REL
variable {T : Nat → Int} {n e N : Nat} {g g2 : Gtt} {s t s2 t2 : tab} {rc : MRq}
/-- a call whose answer is known -/
theorem bxr {i : Nat} {xs : List Int} {z : Int} {k : Int → tab → RO} {v : Option (Int × tab)} (hrc : rle rc rG) (hv : rG i xs t = some (some (z, t2))) (h : bo (rc i xs t) k = some v) : k z t2 = some v := by
  rcases bo_inv h with ⟨e1, _⟩ | ⟨z1, t1, e1, e2⟩
  · have := hrc _ _ _ _ e1
    rw [hv] at this
    cases this
  · have := hrc _ _ _ _ e1
    rw [hv] at this
    cases this
    exact e2
/-- tokens -/
def RLx (T : Nat → Int) (n e : Nat) (s t : tab) : Prop := TKS T n e s ∧ RTx T n t ∧ 0 ≤ s 137 5 ∧ (s 137 5).toNat ≤ e ∧ RTk T n (pls T n (s 137 5).toNat) t
theorem RL_in (h : RLx T n e s t) : 0 ≤ s 137 5 ∧ s 137 5 ≤ 2000 ∧ (s 137 5).toNat ≤ e := by
  have := h.1.1
  have := h.1.2.1
  have := h.2.2.1
  have := h.2.2.2.1
  omega
theorem RL_kk (h : RLx T n e s t) : kkd s = kd T n (pls T n (s 137 5).toNat) := by
  have hi := RL_in h
  unfold kkd
  rw [if_pos (by omega)]
  exact (h.1.2.2.2.2 _ hi.2.2).1
theorem RL_pl (h : RLx T n e s t) : plc s = ((pls T n (s 137 5).toNat : Nat) : Int) := by
  have hi := RL_in h
  unfold plc
  rw [if_pos (by omega)]
  exact (h.1.2.2.2.2 _ hi.2.2).2.1
theorem RL_vl (h : RLx T n e s t) (hk : kkd s = 1 ∨ kkd s = 2) : vlu s = vl9 T n (pls T n (s 137 5).toNat) := by
  have hi := RL_in h
  rw [RL_kk h] at hk
  unfold vlu
  rw [if_pos (by omega)]
  exact (h.1.2.2.2.2 _ hi.2.2).2.2 hk
theorem RL_k4 (h : RLx T n e s t) : t 170 4 = rkn (kkd s) := by
  rw [RL_kk h]
  exact h.2.2.2.2.2.2.2.1
theorem RL_le (_h : RLx T n e s t) : pls T n (s 137 5).toNat ≤ n := pls_le _
/-- slots that step() writes -/
def lexs (k j : Nat) : Prop := k = 170 ∧ (j = 3 ∨ j = 4 ∨ j = 5 ∨ j = 6 ∨ j = 7)
theorem stp_e (h : RLx T n e s t) (h3 : kkd s ≠ 3) (h4 : kkd s ≠ 4) : stp s = up2 s 137 5 (s 137 5 + 1) := by
  have hi := RL_in h
  have hk := RL_kk h
  have he := h.1.2.2.1
  have h1 := h.1.1
  have h2 := h.1.2.1
  have hne : (s 137 5).toNat ≠ e := fun q => by rw [q] at hk; omega
  have hk9 : kkd s = s 139 (s 137 5).toNat := by unfold kkd; rw [if_pos (by omega)]
  unfold stp
  rw [← hk9, if_pos ⟨by omega, by omega, h3, h4⟩]
theorem RL_step (h : RLx T n e s t) (h3 : kkd s ≠ 3) (h4 : kkd s ≠ 4) : ∃ t2, rG 4 [] t = some (some (0, t2)) ∧ RLx T n e (stp s) t2 ∧ (stp s) 137 5 = s 137 5 + 1 ∧ ∀ k j, ¬ lexs k j → t2 k j = t k j := by
  have hi := RL_in h
  have hk := RL_kk h
  have he := h.1.2.2.1
  have hle := RL_le h
  have hne : (s 137 5).toNat ≠ e := fun q => by rw [q] at hk; omega
  obtain ⟨t2, a1, a2, a3⟩ := r_step h.2.1 h.2.2.2.2.2.1 (nx_le hle)
  rw [stp_e h h3 h4]
  have e5 : (up2 s 137 5 (s 137 5 + 1)) 137 5 = s 137 5 + 1 := up_self
  refine ⟨t2, a1, ⟨?_, RTx_fr h.2.1 a3, by rw [e5]; omega, by rw [e5]; omega, ?_⟩, e5, a3⟩
  · obtain ⟨b1, b2, b3, b4, b5⟩ := h.1
    exact ⟨b1, b2, b3, b4, b5⟩
  · rw [e5, show (s 137 5 + 1).toNat = (s 137 5).toNat + 1 by omega]
    exact a2
/-- is(..) -/
theorem RL_is {q c : Int} (hq : ∀ {p : Nat}, RTx T n t → RTk T n p t → p ≤ n → rG 5 [q] t = some (some (if kd T n p = c then 1 else 0, t))) (h : RLx T n e s t) : rG 5 [q] t = some (some (if kkd s = c then 1 else 0, t)) := by
  rw [RL_kk h]
  exact hq h.2.1 h.2.2.2.2 (RL_le h)
theorem RL_lev (h : RLx T n e s t) : rG 20 [] t = some (some (lvl (kkd s) - 1, t)) := by
  rw [RL_kk h]
  exact r_level h.2.1 h.2.2.2.2 (RL_le h)
/-- the token behind -/
theorem RL_beh (h : RLx T n e s t) (h3 : kkd s ≠ 3) (h4 : kkd s ≠ 4) {c : Int} (hc : c = 61 ∨ c = 91 ∨ c = 40 ∨ c = 33 ∨ c = 63) : rG 19 [c] t = some (some (if kkd (stp s) = c then 1 else 0, t)) := by
  obtain ⟨t2, a1, a2, a3, _⟩ := RL_step h h3 h4
  have hi := RL_in h
  rw [RL_kk a2, a3, show (s 137 5 + 1).toNat = (s 137 5).toNat + 1 by omega]
  exact r_behind h.2.1 h.2.2.2.2 (RL_le h) hc
theorem rkn_1 {k : Int} (h : rkn k = 1) : k = 1 := by
  unfold rkn at h
  split at h
  · omega
  · split at h
    · assumption
    · split at h
      · omega
      · split at h
        · omega
        · split at h <;> omega
theorem rkn_3 {k : Int} (h : rkn k = 3) : k = 2 := by
  unfold rkn at h
  split at h
  · omega
  · split at h
    · omega
    · split at h
      · omega
      · split at h
        · assumption
        · split at h <;> omega
theorem rkn_0 {k : Int} (h : rkn k = 0) : k = 3 := by
  unfold rkn at h
  split at h
  · assumption
  · split at h
    · omega
    · split at h
      · omega
      · split at h
        · omega
        · split at h <;> omega
/-- names, counts, routines, what is being read, masks -/
def kcn (k : Int) : Nat := if k = 6 then 5 else k.toNat
/-- names of one scope differ -/
def UNQ (N : Nat) (s t : tab) : Prop := ∀ i j, i < j → j < N → t 176 i = t 176 j → s 106 i ≠ s 106 j
theorem UN_fr {N : Nat} {s t s2 t2 : tab} (h : UNQ N s t) (h1 : ∀ j, j < N → s2 106 j = s 106 j) (h2 : ∀ j, j < N → t2 176 j = t 176 j) : UNQ N s2 t2 := fun i j a b c => by
  rw [h1 i (by omega), h1 j b]
  rw [h2 i (by omega), h2 j b] at c
  exact h i j a b c
def RNm (T : Nat → Int) (n N : Nat) (s t : tab) : Prop := s 105 3 = (N : Int) ∧ t 170 14 = (N : Int) ∧ (N ≤ 58 ∧ UNQ N s t) ∧ NMr T n N (fun j => s 106 j) t ∧ ∀ j, j < N → t 174 j = s 107 j ∧ t 175 j = s 108 j ∧ 0 ≤ s 107 j ∧ s 107 j ≤ 6 ∧ 0 ≤ s 108 j ∧ s 108 j < s 109 (kcn (s 107 j))
def RCt (s t : tab) : Prop := ∀ c, c < 6 → t 177 (4 + c) = s 109 c ∧ 0 ≤ s 109 c ∧ s 109 c ≤ LIM c
def RRt (s t : tab) : Prop := ∀ r : Nat, (r : Int) < s 109 5 → (r : Int) ≠ s 131 13 → t 201 r = s 112 r ∧ s 134 r = lo (t 196 r) (t 195 r) ∧ s 135 r = lo 0 (t 195 r) ∧ lo (s 136 r) (lsl 1 (24 + (r : Int))) = pkm (t 197 r) (t 198 r) (t 199 r) ∧ MB3 (t 197 r) (t 198 r) (t 199 r)
def RSf (N : Nat) (s t : tab) : Prop := s 131 13 = t 170 35 ∧ ((t 170 37 = 0 ∧ s 131 14 = 0) ∨ (t 170 37 = 1 ∧ 0 ≤ s 131 14 ∧ ∀ j : Nat, j < N → (s 131 14 ≤ (j : Int) → s 107 j = 0 ∧ t 170 36 ≤ s 108 j) ∧ ((j : Int) < s 131 14 → s 107 j = 0 → s 108 j < t 170 36)))
def RMk (g : Gtt) (s t : tab) : Prop := s 131 7 = lo g.1 (lo (t 170 23) (t 170 22)) ∧ s 131 8 = lo g.2.1 (t 170 22) ∧ s 131 9 = lo g.2.2.1 (pkm (t 170 24) (t 170 25) (t 170 26)) ∧ MB3 (t 170 24) (t 170 25) (t 170 26)
def RSt (T : Nat → Int) (n N : Nat) (s t : tab) : Prop := RNm T n N s t ∧ RCt s t ∧ RRt s t ∧ RSf N s t
/-- while an E is read -/
def REx (T : Nat → Int) (n e N : Nat) (g : Gtt) (s t : tab) : Prop := RLx T n e s t ∧ RSt T n N s t ∧ RMk g s t ∧ IVx g s t
/-- what reading an E keeps -/
def FEc (s s2 : tab) : Prop := (∀ k j : Nat, ¬ (k = 137 ∧ j = 5 ∨ 99 ≤ k ∧ k ≤ 104 ∨ k = 133 ∧ s 131 6 ≤ (j : Int)) → ¬ (k = 131 ∧ (j = 6 ∨ j = 7 ∨ j = 8 ∨ j = 9)) → k ≠ 132 → s2 k j = s k j) ∧ s2 131 6 = s 131 6 ∧ (∀ j : Nat, (j : Int) < s 131 6 → s2 132 j = s 132 j) ∧ s 137 5 ≤ s2 137 5
def FEr (t t2 : tab) : Prop := ∀ k j, ¬ (k = 170 ∧ (3 ≤ j ∧ j ≤ 7 ∨ 22 ≤ j ∧ j ≤ 26) ∨ k = 178 ∨ k = 177 ∧ (j = 1 ∨ j = 3 ∨ j = 10)) → t2 k j = t k j
theorem FEc_rf : FEc s s := ⟨fun _ _ _ _ _ => rfl, rfl, fun _ _ => rfl, Int.le_refl _⟩
theorem FEr_rf : FEr t t := fun _ _ _ => rfl
theorem FEc_tr {s3 : tab} (h : FEc s s2) (h2 : FEc s2 s3) : FEc s s3 := ⟨fun k j a b c => (h2.1 k j (by rw [h.2.1]; exact a) b c).trans (h.1 k j a b c), h2.2.1.trans h.2.1, fun j hj => (h2.2.2.1 j (by rw [h.2.1]; exact hj)).trans (h.2.2.1 j hj), Int.le_trans h.2.2.2 h2.2.2.2⟩
theorem FEr_tr {t3 : tab} (h : FEr t t2) (h2 : FEr t2 t3) : FEr t t3 := fun k j a => (h2 k j a).trans (h k j a)
theorem FEr_lex (h : ∀ k j, ¬ lexs k j → t2 k j = t k j) : FEr t t2 := fun k j a => h k j (by unfold lexs; omega)
theorem FEc_stp (h : RLx T n e s t) (h3 : kkd s ≠ 3) (h4 : kkd s ≠ 4) : FEc s (stp s) := by
  rw [stp_e h h3 h4]
  refine ⟨fun k j a _ _ => if_neg (fun q => a (.inl q)), if_neg (by omega), fun j _ => if_neg (by omega), ?_⟩
  rw [up_self]
  omega
theorem RSt_fr (h : RSt T n N s t) (hc : FEc s s2) (hr : FEr t t2) : RSt T n N s2 t2 := by
  obtain ⟨⟨a1, a2, a3, a4, a5⟩, b, c, d1, d2⟩ := h
  have cc : ∀ k j, (k = 105 ∨ k = 106 ∨ k = 107 ∨ k = 108 ∨ k = 109 ∨ k = 112 ∨ k = 134 ∨ k = 135 ∨ k = 136) → k ≠ 131 → k ≠ 132 → s2 k j = s k j := fun k j q1 q2 q3 => hc.1 k j (by omega) (by omega) q3
  have c13 : s2 131 13 = s 131 13 := hc.1 131 13 (by omega) (by omega) (by omega)
  have c14 : s2 131 14 = s 131 14 := hc.1 131 14 (by omega) (by omega) (by omega)
  have rr : ∀ k j, (k ≠ 170 ∧ k ≠ 177 ∧ k ≠ 178 ∨ k = 177 ∧ 4 ≤ j ∧ j ≤ 9) → t2 k j = t k j := fun k j q => hr k j (by omega)
  have r35 : t2 170 35 = t 170 35 := hr 170 35 (by omega)
  have r36 : t2 170 36 = t 170 36 := hr 170 36 (by omega)
  have r37 : t2 170 37 = t 170 37 := hr 170 37 (by omega)
  refine ⟨⟨(cc 105 3 (by omega) (by omega) (by omega)).trans a1, (hr 170 14 (by omega)).trans a2, ⟨a3.1, UN_fr a3.2 (fun j _ => cc 106 j (by omega) (by omega) (by omega)) (fun j _ => rr 176 j (by omega))⟩, fun j hj => ?_, fun j hj => ?_⟩, fun c hc2 => ?_, fun r hr1 hr2 => ?_, ?_, ?_⟩
  · obtain ⟨a, b, q1, q2, q3, q4, q5, q6⟩ := a4 j hj
    exact ⟨a, b, (rr 172 j (by omega)).trans q1, (rr 173 j (by omega)).trans q2, q3, q4, q5, (cc 106 j (by omega) (by omega) (by omega)).trans q6⟩
  · rw [rr 174 j (by omega), rr 175 j (by omega), cc 107 j (by omega) (by omega) (by omega), cc 108 j (by omega) (by omega) (by omega), cc 109 _ (by omega) (by omega) (by omega)]
    exact a5 j hj
  · rw [rr 177 _ (by omega), cc 109 c (by omega) (by omega) (by omega)]
    exact b c hc2
  · rw [cc 109 5 (by omega) (by omega) (by omega)] at hr1
    rw [c13] at hr2
    rw [rr 201 r (by omega), cc 112 r (by omega) (by omega) (by omega), cc 134 r (by omega) (by omega) (by omega), cc 135 r (by omega) (by omega) (by omega), cc 136 r (by omega) (by omega) (by omega), rr 195 r (by omega), rr 196 r (by omega), rr 197 r (by omega), rr 198 r (by omega), rr 199 r (by omega)]
    exact c r hr1 hr2
  · rw [c13, r35]
    exact d1
  · rw [c14, r36, r37]
    rcases d2 with d2 | ⟨d2, d3, d4⟩
    · exact .inl d2
    · refine .inr ⟨d2, d3, fun j hj => ?_⟩
      rw [cc 107 j (by omega) (by omega) (by omega), cc 108 j (by omega) (by omega) (by omega)]
      exact d4 j hj
/-- what routines and names are kept for -/
theorem IV_fr (h : IVx g s t) (hc : FEc s s2) (hr : FEr t t2) (hn : 0 ≤ s2 99 12 ∧ s2 99 12 + s2 131 6 ≤ s2 137 5 ∧ 0 ≤ t2 177 1 ∧ t2 177 1 ≤ 12 * s2 137 5 ∧ 0 ≤ t2 177 10 ∧ t2 177 10 ≤ s2 137 5 ∧ ((g2.2.2.2.2.1 + g2.2.2.2.2.2 : Nat) : Int) ≤ s2 99 12) (hg : g2.2.2.2.1 = g.2.2.2.1 ∧ g2.2.2.2.2.1 = g.2.2.2.2.1) (hk : MKx g s t2) : IVx g2 s2 t2 := by
  obtain ⟨_, _, h3, h4⟩ := h
  have cc : ∀ k j, (k = 105 ∨ k = 106 ∨ k = 107 ∨ k = 108 ∨ k = 109 ∨ k = 112 ∨ k = 113) → s2 k j = s k j := fun k j q1 => hc.1 k j (by omega) (by omega) (by omega)
  have c13 : s2 131 13 = s 131 13 := hc.1 131 13 (by omega) (by omega) (by omega)
  have rr : ∀ k j, k ≠ 170 ∧ k ≠ 177 ∧ k ≠ 178 → t2 k j = t k j := fun k j q => hr k j (by omega)
  refine ⟨hn, ⟨MKr_mv hk.1 hg.1 hg.2 (cc 109 5 (by omega)) (Int.le_of_eq (cc 109 0 (by omega)).symm) (Int.le_of_eq (cc 109 1 (by omega)).symm), fun q => by rw [c13] at q ⊢; rw [cc 113 _ (by omega), cc 112 _ (by omega), cc 109 0 (by omega)]; exact hk.2 q⟩, fun j q => ?_, fun r q1 q2 => ?_⟩
  · rw [cc 105 3 (by omega)] at q
    rw [cc 107 j (by omega), cc 108 j (by omega), hg.1]
    exact h3 j q
  · rw [cc 109 5 (by omega)] at q1
    rw [c13] at q2
    have := h4 r q1 q2
    unfold RVx at this ⊢
    rw [hg.2]
    rw [rr 200 r (by omega), rr 202 r (by omega), rr 195 r (by omega), rr 196 r (by omega), rr 197 r (by omega), rr 198 r (by omega), rr 199 r (by omega), cc 113 r (by omega), cc 112 r (by omega), hg.1]
    obtain ⟨a1, a2, a3, a4, a5, a6, a7, a8, a9, a10, a11, a12, a13⟩ := this
    exact ⟨a1, a2, a3, a4, a5, a6, a7, a8, a9, a10, a11, fun v q => bnd_m (Int.le_of_eq (cc 109 0 (by omega)).symm) (Int.le_of_eq (cc 109 1 (by omega)).symm) (a12 v q), a13⟩
/-- parts and code so far are kept, more may come -/
def PFx (s t s2 t2 : tab) : Prop := (s 99 12 ≤ s2 99 12 ∧ ∀ k j : Nat, 100 ≤ k → k ≤ 104 → (j : Int) < s 99 12 → s2 k j = s k j) ∧ (t 177 1 ≤ t2 177 1 ∧ ∀ j : Nat, (j : Int) < t 177 1 → t2 178 j = t 178 j) ∧ t 177 10 ≤ t2 177 10 ∧ MGx t t2 ∧ (t2 170 21 = -1 → t 170 21 = -1) ∧ ∀ r, s2 113 r = s 113 r
theorem PF_tr {s3 t3 : tab} (h : PFx s t s2 t2) (k : PFx s2 t2 s3 t3) : PFx s t s3 t3 := by
  obtain ⟨⟨a1, a2⟩, ⟨a3, a4⟩, a5, a6, a7, a8⟩ := h
  obtain ⟨⟨b1, b2⟩, ⟨b3, b4⟩, b5, b6, b7, b8⟩ := k
  exact ⟨⟨by omega, fun k j q1 q2 q3 => (b2 k j q1 q2 (by omega)).trans (a2 k j q1 q2 q3)⟩, ⟨by omega, fun j q => (b4 j (by omega)).trans (a4 j q)⟩, by omega, fun j q1 q2 v w => b6 j q1 q2 v (a6 j q1 q2 v w), fun q => a7 (b7 q), fun r => (b8 r).trans (a8 r)⟩
/-- nothing was written -/
theorem PF_ne (h1 : ∀ k j, 99 ≤ k → k ≤ 104 → s2 k j = s k j) (h2 : ∀ k j, k = 177 ∨ k = 178 → t2 k j = t k j) (h3 : MGx t t2) (h4 : t2 170 21 = t 170 21) (h5 : ∀ r, s2 113 r = s 113 r) : PFx s t s2 t2 := ⟨⟨by rw [h1 99 12 (by omega) (by omega)]; exact Int.le_refl _, fun k j q1 q2 _ => h1 k j (by omega) q2⟩, ⟨by rw [h2 177 1 (by omega)]; exact Int.le_refl _, fun j _ => h2 178 j (by omega)⟩, by rw [h2 177 10 (by omega)]; exact Int.le_refl _, h3, fun q => h4.symm.trans q, h5⟩
theorem PF_rf : PFx s t s t := PF_ne (fun _ _ _ _ => rfl) (fun _ _ _ => rfl) (fun _ _ _ _ q => q) rfl (fun _ => rfl)
/-- what lies below is as it was -/
theorem EM_up {md n a b f l k0 k1 q : Nat} {x : Int} (h : CO s t g.2.2.2.1 md n a b x f l k0 k1 q (cxt g s t)) (hb : (b : Int) ≤ s 99 12) (hl : (l : Int) ≤ t 177 1) (hq : md = 4 → q + n ≤ l) (hp : PFx s t s2 t2) : CO s2 t2 g.2.2.2.1 md n a b x f l k0 k1 q (cxt g s2 t2) := by
  obtain ⟨⟨a1, a2⟩, ⟨a3, a4⟩, a5, a6, a7, a8⟩ := hp
  refine CO_sub (CO_ext h ⟨fun k j q1 q2 q3 q4 => a2 k j (by omega) (by omega) (by omega), fun j q1 q2 q3 => a2 104 j (by omega) (by omega) (by omega), fun i q1 q2 => a4 i (by omega), fun w i q1 q2 => a4 i (by have := hq w; omega), a1, fun r _ => a8 r⟩) (cxt_sb a1 a6) cxt_au
/-- a step while an E is read -/
theorem IV_st (h : IVx g s t) (h3 : (stp s) 137 5 = s 137 5 + 1) (h4 : stp s = up2 s 137 5 (s 137 5 + 1)) (hr : ∀ k j, ¬ lexs k j → t2 k j = t k j) (hc : FEc s (stp s)) : IVx g (stp s) t2 := by
  have r : ∀ k j, k = 177 → t2 k j = t k j := fun k j q => hr k j (by unfold lexs; omega)
  have c12 : (stp s) 99 12 = s 99 12 := by rw [h4]; exact if_neg (by omega)
  have c6 : (stp s) 131 6 = s 131 6 := by rw [h4]; exact if_neg (by omega)
  obtain ⟨n1, n2, n3, n4, n5, n6, n7⟩ := h.1
  refine IV_fr h hc (FEr_lex hr) ⟨by omega, by omega, ?_, ?_, ?_, ?_, by omega⟩ ⟨rfl, rfl⟩ (MK_e h.2.1 (fun j q1 q2 => hr 170 j (by unfold lexs; omega)) (hr 170 37 (by unfold lexs; omega)))
  · rw [r 177 1 rfl]; exact n3
  · rw [r 177 1 rfl]; omega
  · rw [r 177 10 rfl]; exact n5
  · rw [r 177 10 rfl]; omega
theorem RE_step (h : REx T n e N g s t) (h3 : kkd s ≠ 3) (h4 : kkd s ≠ 4) : ∃ t2, rG 4 [] t = some (some (0, t2)) ∧ REx T n e N g (stp s) t2 ∧ FEc s (stp s) ∧ FEr t t2 ∧ (stp s) 137 5 = s 137 5 + 1 := by
  obtain ⟨t2, a1, a2, a3, a4⟩ := RL_step h.1 h3 h4
  have fc := FEc_stp h.1 h3 h4
  have fr := FEr_lex a4
  refine ⟨t2, a1, ⟨a2, RSt_fr h.2.1 fc fr, ?_, IV_st h.2.2.2 a3 (stp_e h.1 h3 h4) a4 fc⟩, fc, fr, a3⟩
  have e7 : ∀ j, (stp s) 131 j = s 131 j := fun j => by rw [stp_e h.1 h3 h4]; exact if_neg (by omega)
  obtain ⟨m1, m2, m3⟩ := h.2.2.1
  unfold RMk
  rw [e7, e7, e7, a4 170 22 (by unfold lexs; omega), a4 170 23 (by unfold lexs; omega), a4 170 24 (by unfold lexs; omega), a4 170 25 (by unfold lexs; omega), a4 170 26 (by unfold lexs; omega)]
  exact ⟨m1, m2, m3⟩
/-- steps write nothing -/
theorem PF_stp (h : RLx T n e s t) (h3 : kkd s ≠ 3) (h4 : kkd s ≠ 4) (hg : rG 4 [] t = some (some (0, t2))) : PFx s t (stp s) t2 ∧ (stp s) 99 12 = s 99 12 ∧ t2 177 1 = t 177 1 ∧ t2 177 10 = t 177 10 := by
  obtain ⟨t3, a1, _, _, a4⟩ := RL_step h h3 h4
  rw [hg] at a1
  cases a1
  refine ⟨PF_ne (fun k j _ _ => by rw [stp_e h h3 h4]; exact if_neg (by omega)) (fun k j q => a4 k j (by unfold lexs; omega)) (fun j q1 q2 v w => by rw [a4 170 j (by unfold lexs; omega)]; exact w) (a4 170 21 (by unfold lexs; omega)) (fun r => by rw [stp_e h h3 h4]; exact if_neg (by omega)), by rw [stp_e h h3 h4]; exact if_neg (by omega), a4 177 1 (by unfold lexs; omega), a4 177 10 (by unfold lexs; omega)⟩
/-- take(..) against expect(..) -/
theorem RE_take (h : REx T n e N g s t) {q c : Int} (hq : ∀ {p : Nat}, RTx T n t → RTk T n p t → p ≤ n → rG 5 [q] t = some (some (if kd T n p = c then 1 else 0, t))) (hc : c ≠ 3 ∧ c ≠ 4) : (∃ t2, rG 8 [q] t = some (some (1, t2)) ∧ kkd s = c ∧ cG 29 [c] s = some (some (0, stp s)) ∧ REx T n e N g (stp s) t2 ∧ FEc s (stp s) ∧ FEr t t2 ∧ (stp s) 137 5 = s 137 5 + 1) ∨ (rG 8 [q] t = some (some (0, t)) ∧ kkd s ≠ c ∧ cG 29 [c] s = some none) := by
  have hi := RL_is hq h.1
  rw [rG_136, cG_43]
  unfold rM136 cM43
  rw [hi, bo_s]
  by_cases hk : kkd s = c
  · obtain ⟨t2, a1, a2, a3, a4, a5⟩ := RE_step h (by omega) (by omega)
    refine .inl ⟨t2, ?_, hk, if_neg (fun q => q hk), a2, a3, a4, a5⟩
    rw [if_pos (by rw [if_pos hk]; decide), a1]
    rfl
  · refine .inr ⟨?_, hk, if_pos hk⟩
    rw [if_neg (by rw [if_neg hk]; decide)]
theorem PF_take {q c : Int} (h : REx T n e N g s t) (hq : ∀ {p : Nat}, RTx T n t → RTk T n p t → p ≤ n → rG 5 [q] t = some (some (if kd T n p = c then 1 else 0, t))) (hc : c ≠ 3 ∧ c ≠ 4) (hk : kkd s = c) (hg : rG 8 [q] t = some (some (1, t2))) : PFx s t (stp s) t2 ∧ (stp s) 99 12 = s 99 12 ∧ t2 177 1 = t 177 1 ∧ t2 177 10 = t 177 10 := by
  have hi := RL_is hq h.1
  rw [rG_136] at hg
  unfold rM136 at hg
  rw [hi, bo_s, if_pos hk, if_pos (by decide)] at hg
  obtain ⟨t3, a1, _⟩ := RE_step h (by omega) (by omega)
  rw [a1] at hg
  cases hg
  exact PF_stp h.1 (by omega) (by omega) a1
end REL
