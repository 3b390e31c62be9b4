/-! Every turn takes from the weight what it must. -/
section POT2
variable {s s2 : tab} {Q Q2 : Nat → Nat} {act : Nat → Prop} {cx : Nat → Cxx} {anc : Nat → Nat → Prop} {p : Nat} {n M : Nat}
/-- who is new -/
def NWx (s : tab) (Q : Nat → Nat) (act : Nat → Prop) (p n : Nat) (act2 : Nat → Prop) : Prop := ∀ q, act2 q → (act q ∧ (stx (s, Q, n) p).1 143 q = s 143 q) ∨ ((stx (s, Q, n) p).1 143 q = (p : Int) ∧ CHb s p (q : Int))
/-- what a turn leaves of the weight -/
def WLx (s : tab) (Q : Nat → Nat) (act : Nat → Prop) (p n M : Nat) (act2 : Nat → Prop) : Prop := Mzx (stx (s, Q, n) p).1 (stx (s, Q, n) p).2.1 act2 M ≤ Mzx s Q act M + 2 * ind (s 144 p < 0) ∧ (¬ HOx s p → Mzx (stx (s, Q, n) p).1 (stx (s, Q, n) p).2.1 act2 M + 1 ≤ Mzx s Q act M + 2 * ind (s 144 p < 0)) ∧ NWx s Q act p n act2
theorem WL_of {act2 : Nat → Prop} (hw : NWx s Q act p n act2) (h : Mzx (stx (s, Q, n) p).1 (stx (s, Q, n) p).2.1 act2 M + 1 ≤ Mzx s Q act M + 2 * ind (s 144 p < 0)) : WLx s Q act p n M act2 := ⟨by omega, fun _ => h, hw⟩
theorem ap_3 {l : wrl} {u : Int} (hl : PREx p l) {j : Nat} : apw ((144, p, u) :: l) s 143 j = s 143 j := by
  rw [apw_cons, (pre_o hl _).2.1 j]
  exact if_neg (by omega)
theorem J_np (h : JGx s Q act cx anc) (ap : act p) : s 143 p ≠ (p : Int) := fun e => by
  rcases h.2.2.2.1 p ap with z | ⟨y, z, _, z2, _⟩
  · omega
  · have := (h.2.2.2.2.1 y p z2).2.2.1
    rw [z] at e
    omega
theorem J_lt (h : JGx s Q act cx anc) (ap : act p) (hM : s 99 12 ≤ (M : Int)) : p < M := by
  have := (EF_k (h.2.2.1 p ap).1).2.1
  omega
/-- the table behind (144, p, u) and harmless writes -/
theorem ap_4 {l : wrl} {u : Int} (hl : PREx p l) {j : Nat} (hj : j ≠ p) : apw ((144, p, u) :: l) s 144 j = s 144 j := by
  rw [apw_cons, (pre_o hl _).2.2.1 j]
  exact if_neg (fun q => hj q.2)
theorem w_T (h : JGx s Q act cx anc) (hM : s 99 12 ≤ (M : Int)) (hq : Q p = 1) (hn : NoC s act p) (ap : act p) (k : KTx s p (Wrx s p)) : ∃ c r, JGx (stx (s, Q, n) p).1 (stx (s, Q, n) p).2.1 (fun r => act r ∧ r ≠ p) c r ∧ WLx s Q act p n M (fun r => act r ∧ r ≠ p) := by
  obtain ⟨c, r, hJ⟩ := st_T (n := n) h hq hn ap k
  obtain ⟨pre, v, u, hpre, hW⟩ := k
  have hlt := (EF_k (h.2.2.1 p ap).1).2.1
  have hl2 : Wrx s p = ((144, p, u) :: (pre ++ (twx s p v).1), pux (s 143 p)) := by
    rw [hW]
    unfold cax
    rw [tw_2 hlt]
    rfl
  refine ⟨c, r, hJ, WL_of (fun q hq2 => .inl ⟨hq2.1, ?_⟩) ?_⟩
  · show apw (Wrx s p).1 s 143 q = s 143 q
    rw [hl2]
    exact ap_3 (PR_app hpre PR_tw)
  refine M_T hq ap (J_lt h ap hM) (fun j hj => ?_) (J_np h ap) (fun r => ?_)
  · show apw (Wrx s p).1 s 144 j = s 144 j
    rw [hl2]
    exact ap_4 (PR_app hpre PR_tw) hj
  · show Q r - (if r = p then 1 else 0) + (Wrx s p).2.count (r : Int) = _
    rw [hl2]
    dsimp only
    rw [cn1 (J_143 h ap)]
    by_cases e : r = p
    · rw [if_pos e, if_pos e, e, hq]
    · rw [if_neg e, if_neg e]
      omega
theorem w_A (h : JGx s Q act cx anc) (hM : s 99 12 ≤ (M : Int)) (hq : Q p = 1) (hn : NoC s act p) (ap : act p) (hk : s 100 p ≠ 312) {pre : wrl} {y : Int} (hpre : PREx p pre) (hy : CHx (EF s) (cx p) p y) (hcb : CHb s p y) (hW : Wrx s p = cax ((144, p, trn s p + 1) :: pre, []) (awx s y p)) (hph : ∀ t : tab, t 146 p = s 146 p → PHc s p (trn s p + 1) (apw pre t 146 p)) : ∃ c r, JGx (stx (s, Q, n) p).1 (stx (s, Q, n) p).2.1 (fun q => act q ∨ (q : Int) = y) c r ∧ WLx s Q act p n M (fun q => act q ∨ (q : Int) = y) := by
  obtain ⟨c9, r9, hJ⟩ := st_A (n := n) h hq hn ap hk hpre hy hW hph
  obtain ⟨y0, y1, y2⟩ := hy
  have hlt := (EF_k (h.2.2.1 p ap).1).2.1
  have h2 := h.2.1
  obtain ⟨c, rfl⟩ : ∃ c : Nat, y = (c : Int) := ⟨y.toNat, by omega⟩
  rw [Int.toNat_natCast] at y2
  have hcp : c ≠ p := by omega
  have nc : ¬ act c := fun ac => by
    rcases h.2.2.2.2.2.1 c p ac ap hcp with k | k | k
    · have := (h.2.2.2.2.1 c p k).2.2.1
      omega
    · exact J_anc h hn k
    · exact k.1 c ⟨EF_p (h.2.2.1 c ac).1, EF_p y2⟩
  have qc : Q c = 0 := Classical.byContradiction fun k => nc (h.2.2.2.2.2.2.1 c (by omega)).1
  have hW2 : Wrx s p = ((144, p, trn s p + 1) :: (pre ++ [(143, c, (p : Int)), (144, c, -1)]), pux (c : Int)) := by
    rw [hW]
    unfold cax awx
    rw [if_pos ⟨by omega, by omega⟩, Int.toNat_natCast]
    dsimp only [List.cons_append, List.nil_append]
  have hT : (stx (s, Q, n) p).1 = up2 (up2 (apw ((144, p, trn s p + 1) :: pre) s) 143 c (p : Int)) 144 c (-1) := by
    show apw (Wrx s p).1 s = _
    rw [hW2]
    dsimp only
    rw [← List.cons_append, apw_app, apw_cons (a := [(144, c, -1)]), apw_cons, apw_nil]
  have hQ : ∀ r, (stx (s, Q, n) p).2.1 r = Q r - (if r = p then 1 else 0) + (if (c : Int) = (r : Int) then 1 else 0) := fun r => by
    show Q r - (if r = p then 1 else 0) + (Wrx s p).2.count (r : Int) = _
    rw [hW2]
    dsimp only
    rw [cn1 (by omega)]
  refine ⟨c9, r9, hJ, WL_of (fun q hq2 => ?_) ?_⟩
  · by_cases e : q = c
    · subst e
      refine .inr ⟨?_, hcb⟩
      rw [hT]
      exact (if_neg (by omega)).trans up_self
    · refine .inl ⟨hq2.elim id (fun w => absurd w (by omega)), ?_⟩
      rw [hT]
      exact (if_neg (by omega)).trans ((if_neg (fun w => e w.2)).trans (ap_3 hpre))
  refine M_A (C := fun i => (i : Int) = (c : Int)) hq ap (J_lt h ap hM) (fun i hi => ?_) (fun i => Iff.rfl) ?_ (fun i e hi => ?_)
  · have e : i = c := by omega
    subst e
    refine ⟨hcp, nc, qc, by rw [hT]; exact up_self, ?_⟩
    rw [hQ, if_neg hcp, if_pos rfl, qc]
  · rw [hQ, if_pos rfl, if_neg (by omega), hq]
  · refine ⟨?_, ?_⟩
    · rw [hQ, if_neg e, if_neg (by omega)]
      rfl
    · rw [hT]
      exact (if_neg (by omega)).trans ((if_neg (by omega)).trans (ap_4 hpre e))
theorem w_W1 (h : JGx s Q act cx anc) (hM : s 99 12 ≤ (M : Int)) (hq : Q p = 1) (hn : NoC s act p) (ap : act p) {K L : Nat} (hK : K = 152 ∧ s 100 p = 406 ∨ K = 153 ∧ s 100 p = 407) (hL : L = (s 101 p).toNat) (h0 : 0 ≤ s 101 p) (hW : Wrx s p = ([(144, p, trn s p + 1), (K, L, (p : Int))], [])) : ∃ c r, JGx (stx (s, Q, n) p).1 (stx (s, Q, n) p).2.1 act c r ∧ WLx s Q act p n M act := by
  obtain ⟨c9, r9, hJ⟩ := st_W1 (n := n) h hq hn hK hL h0 hW
  refine ⟨c9, r9, hJ, WL_of (fun q hq2 => .inl ⟨hq2, by
    show apw (Wrx s p).1 s 143 q = s 143 q
    rw [hW, apw_cons, apw_cons, apw_nil]
    exact (if_neg (by omega)).trans (if_neg (by omega))⟩) (M_W hq ap (J_lt h ap hM) (fun j hj => ?_) (fun r => ?_))⟩
  · show apw (Wrx s p).1 s 144 j = s 144 j
    rw [hW, apw_cons, apw_cons, apw_nil]
    exact (if_neg (by omega)).trans (if_neg (fun q => hj q.2))
  · show Q r - (if r = p then 1 else 0) + (Wrx s p).2.count (r : Int) = _
    rw [hW]
    dsimp only
    rw [List.count_nil]
    by_cases e : r = p
    · rw [if_pos e, if_pos e, e, hq]
    · rw [if_neg e, if_neg e]
      omega
theorem w_S (h : JGx s Q act cx anc) (hM : s 99 12 ≤ (M : Int)) (hq : Q p = 1) (hn : NoC s act p) (ap : act p) (k : KSx s p (Wrx s p)) (ho : HOx s p) : ∃ c r, JGx (stx (s, Q, n) p).1 (stx (s, Q, n) p).2.1 act c r ∧ WLx s Q act p n M act := by
  obtain ⟨c9, r9, hJ⟩ := st_S (n := n) h hq hn ap k
  obtain ⟨pre, u, hpre, hk, hW⟩ := k
  have hlt := (EF_k (h.2.2.1 p ap).1).2.1
  have h2 := h.2.1
  refine ⟨c9, r9, hJ, M_S hq (J_lt h ap hM) (fun j hj => ?_) (fun r => ?_), fun q => absurd ho q, fun q hq2 => .inl ⟨hq2, by
    show apw (Wrx s p).1 s 143 q = s 143 q
    rw [hW]
    exact ap_3 hpre⟩⟩
  · show apw (Wrx s p).1 s 144 j = s 144 j
    rw [hW]
    exact ap_4 hpre hj
  · show Q r - (if r = p then 1 else 0) + (Wrx s p).2.count (r : Int) = _
    rw [hW]
    dsimp only
    rw [cn1 (by omega)]
    by_cases e : r = p
    · rw [if_pos e, if_pos e, e, hq, if_pos rfl]
    · rw [if_neg e, if_neg e, if_neg (by omega)]
      omega
end POT2
