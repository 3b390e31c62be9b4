/-! Turns of the parts machine, one by one. -/
section MOVES
variable {s : tab} {Q : Nat → Nat} {act act2 : Nat → Prop} {p n M N : Nat} {IN : Nat → Prop}
theorem PS_of (h : PSy M N IN s Q act) (hp : 0 < Q p) {c : Nat → Cxx} {r : Nat → Nat → Prop} (h1 : JGx (stx (s, Q, n) p).1 (stx (s, Q, n) p).2.1 act2 c r) (h2 : NWx s Q act p n act2) : PSy M N IN (stx (s, Q, n) p).1 (stx (s, Q, n) p).2.1 act2 := by
  obtain ⟨⟨cx, anc, hJ⟩, hK, hI, hu, hM, hq⟩ := h
  have e0 := st_114 (n := n) hJ hp
  exact ⟨⟨c, r, h1⟩, KJ_step hK hI hJ hp h2, INC_ext e0 hI, fun y z c y1 z1 y2 z2 => hu y z c y1 z1 ((CH_ext e0).mp y2) ((CH_ext e0).mp z2), by rw [e0 99 12 (by omega)]; exact hM, QB_st hq⟩
/-- what a turn leaves as it was: but for the parts of X; a is who may be done, or asks -/
def MVx (s : tab) (Q : Nat → Nat) (act : Nat → Prop) (s2 : tab) (Q2 : Nat → Nat) (act2 : Nat → Prop) (X : Nat → Prop) (p : Nat) : Prop :=
  (∀ z, act z → ¬ X z → act2 z ∧ s2 143 z = s 143 z ∧ s2 144 z = s 144 z ∧ s2 145 z = s 145 z ∧ s2 146 z = s 146 z ∧ s2 147 z = s 147 z ∧ (s 143 p ≠ (z : Int) → Q2 z = Q z)) ∧
  (∀ z, ¬ act z → s2 145 z = s 145 z) ∧ (∀ z : Nat, act2 z → act z ∨ CHb s p (z : Int)) ∧ ∀ k j, 99 ≤ k ∧ k ≤ 114 → s2 k j = s k j
/-- writes of p's own, to variables, to queues -/
def PRz (p : Nat) (l : wrl) : Prop := ∀ w ∈ l, ((w.1 = 146 ∨ w.1 = 147) ∧ w.2.1 = p) ∨ w.1 = 148 ∨ w.1 = 149 ∨ 154 ≤ w.1
theorem PZ_X {l : wrl} (h : PRz p l) : PREx p l := fun w hw => by
  have := h w hw
  exact ⟨by omega, by omega, by omega, by omega, by omega, fun q => by omega⟩
theorem PZ_nil : PRz p [] := fun w hw => absurd hw List.not_mem_nil
theorem PZ_app {a b : wrl} (ha : PRz p a) (hb : PRz p b) : PRz p (a ++ b) := fun w hw => (List.mem_append.mp hw).elim (ha w) (hb w)
theorem PZ_one {k j : Nat} {v : Int} (h : ((k = 146 ∨ k = 147) ∧ j = p) ∨ k = 148 ∨ k = 149 ∨ 154 ≤ k) : PRz p [(k, j, v)] := fun w hw => by
  rw [List.mem_singleton] at hw
  rw [hw]
  exact h
theorem PZ_as {g x v : Int} : PRz p (asx s g x v) := fun w hw => by
  have := as_k (z := s) w hw
  omega
theorem PZ_pw {f : Int} : ∀ (n : Nat) (i x : Int), PRz p (pwx s f n i x)
  | 0, _, _ => PZ_nil
  | n + 1, _, _ => PZ_app PZ_as (PZ_pw n _ _)
theorem pz_o {l : wrl} (h : PRz p l) (t : tab) {k j : Nat} (hk : k < 154 ∧ k ≠ 148 ∧ k ≠ 149 ∧ ((k = 146 ∨ k = 147) → j ≠ p)) : apw l t k j = t k j := apw_o l t k j (fun w hw q => by
  have := h w hw
  omega)
theorem pz_4 {l : wrl} (h : PRz p l) (t : tab) {j : Nat} {v : Int} : apw l (up2 t 144 j v) = up2 (apw l t) 144 j v := apw_up l t 144 j v (fun w hw q => by
  have := h w hw
  omega)
/-- who is ready -/
theorem PS_rd (h : PSy M N IN s Q act) (hq : 0 < Q p) : act p ∧ IN p ∧ (p : Int) < s 99 12 ∧ p < M ∧ (¬ PBg s p → Q p = 1 ∧ NoC s act p) := by
  obtain ⟨⟨cx, anc, hJ⟩, hK, hI, hu, hM, _⟩ := h
  obtain ⟨a, b⟩ := hJ.2.2.2.2.2.2.1 p hq
  have := (EF_k (hJ.2.2.1 p a).1).2.1
  exact ⟨a, hK.1 p a, this, by omega, b⟩
/-- a child is asked -/
theorem mv_ask (h : PSy M N IN s Q act) (hq : 0 < Q p) (hk : s 100 p ≠ 312) {pre : wrl} {y : Nat} (hpre : PRz p pre) (hW : Wrx s p = cax ((144, p, trn s p + 1) :: pre, []) (awx s (y : Int) p)) (hcb : CHb s p (y : Int)) (hcx : ∀ c, EF s c p → CHx (EF s) c p (y : Int)) (hph : ∀ t : tab, t 146 p = s 146 p → PHc s p (trn s p + 1) (apw pre t 146 p)) : ∃ s2 Q2 n2, stx (s, Q, n) p = (s2, Q2, n2) ∧ PSy M N IN s2 Q2 (fun q => act q ∨ (q : Int) = (y : Int)) ∧ MVx s Q act s2 Q2 (fun q => act q ∨ (q : Int) = (y : Int)) (fun z => z = p) p ∧ ¬ act y ∧ y < p ∧ s2 = up2 (up2 (up2 (apw pre s) 144 p (trn s p + 1)) 143 y (p : Int)) 144 y (-1) ∧ (∀ r, Q2 r = if r = y then 1 else if r = p then 0 else Q r) ∧ n2 = n + (if s 144 p < 0 then 1 else 0) := by
  obtain ⟨ap, ip, pl, pM, hb⟩ := PS_rd h hq
  obtain ⟨⟨cx, anc, hJ⟩, hK, hI, hu, hM, hqb⟩ := id h
  obtain ⟨hq1, hn⟩ := hb (fun q => hk q.1)
  have hy := hcx _ (hJ.2.2.1 p ap).1
  obtain ⟨c9, r9, j1, j2⟩ := w_A (n := n) hJ (Int.le_of_eq hM) hq1 hn ap hk (PZ_X hpre) hy hcb hW hph
  obtain ⟨y0, y1, y2⟩ := hy
  rw [Int.toNat_natCast] at y2
  have h2 := hJ.2.1
  have hcp : y ≠ p := by omega
  have nc : ¬ act y := fun ac => by
    rcases hJ.2.2.2.2.2.1 y p ac ap hcp with k | k | k
    · have := (hJ.2.2.2.2.1 y p k).2.2.1
      omega
    · exact J_anc hJ hn k
    · exact k.1 y ⟨EF_p (hJ.2.2.1 y ac).1, EF_p y2⟩
  have qc : Q y = 0 := Classical.byContradiction fun k => nc (hJ.2.2.2.2.2.2.1 y (by omega)).1
  have hW2 : Wrx s p = ((144, p, trn s p + 1) :: (pre ++ [(143, y, (p : Int)), (144, y, -1)]), pux (y : Int)) := by
    rw [hW]
    unfold cax awx
    rw [if_pos ⟨by omega, by omega⟩, Int.toNat_natCast]
    dsimp only [List.cons_append, List.nil_append]
  have hT : (stx (s, Q, n) p).1 = up2 (up2 (up2 (apw pre s) 144 p (trn s p + 1)) 143 y (p : Int)) 144 y (-1) := by
    show apw (Wrx s p).1 s = _
    rw [hW2]
    dsimp only
    rw [← List.cons_append, apw_app, apw_cons (a := [(144, y, -1)]), apw_cons, apw_nil, apw_cons, pz_4 hpre]
  have hQ : ∀ r, (stx (s, Q, n) p).2.1 r = if r = y then 1 else if r = p then 0 else Q r := fun r => by
    show Q r - (if r = p then 1 else 0) + (Wrx s p).2.count (r : Int) = _
    rw [hW2]
    dsimp only
    rw [cn1 (by omega)]
    by_cases e : r = y
    · rw [if_pos e, if_neg (by omega), if_pos (by omega), e, qc]
    · rw [if_neg e, if_neg (show ¬ (y : Int) = (r : Int) by omega)]
      by_cases e2 : r = p
      · rw [if_pos e2, if_pos e2, e2, hq1]
      · rw [if_neg e2, if_neg e2]
        rfl
  refine ⟨(stx (s, Q, n) p).1, (stx (s, Q, n) p).2.1, (stx (s, Q, n) p).2.2, rfl, PS_of h hq j1 j2.2.2, ⟨fun z az zp => ?_, fun z nz => ?_, fun z az => ?_, st_114 (n := n) hJ hq⟩, nc, by omega, hT, hQ, rfl⟩
  · have zp : z ≠ p := zp
    have zy : z ≠ y := fun e => nc (e ▸ az)
    have o : ∀ k, k < 148 → 143 ≤ k → (stx (s, Q, n) p).1 k z = s k z := fun k k1 k2 => by
      rw [hT]
      exact (if_neg (by omega)).trans ((if_neg (by omega)).trans ((if_neg (by omega)).trans (pz_o hpre s (by omega))))
    exact ⟨.inl az, o _ (by omega) (by omega), o _ (by omega) (by omega), o _ (by omega) (by omega), o _ (by omega) (by omega), o _ (by omega) (by omega), fun _ => by rw [hQ, if_neg zy, if_neg zp]⟩
  · rw [hT]
    exact (if_neg (by omega)).trans ((if_neg (by omega)).trans ((if_neg (by omega)).trans (pz_o hpre s (by omega))))
  · rcases az with az | az
    · exact .inl az
    · exact .inr (by rw [az]; exact hcb)
/-- a part is done -/
theorem mv_tell (h : PSy M N IN s Q act) (hq : 0 < Q p) (hb : PBg s p → Q p = 1 ∧ NoC s act p) {pre : wrl} {v u : Int} (hpre : PRz p pre) (hW : Wrx s p = cax ((144, p, u) :: pre, []) (twx s p v)) : ∃ s2 Q2 n2, stx (s, Q, n) p = (s2, Q2, n2) ∧ PSy M N IN s2 Q2 (fun q => act q ∧ q ≠ p) ∧ MVx s Q act s2 Q2 (fun q => act q ∧ q ≠ p) (fun z => z = p) p ∧ (∀ k j, k ≠ 142 → s2 k j = up2 (up2 (apw pre s) 144 p u) 145 p v k j) ∧ (s2 142 13 = if s 143 p < 0 then 1 else s 142 13) ∧ (∀ r, Q2 r = (if r = p then 0 else Q r) + (if s 143 p = (r : Int) then 1 else 0)) ∧ n2 = n + (if s 144 p < 0 then 1 else 0) := by
  obtain ⟨ap, ip, pl, pM, hb2⟩ := PS_rd h hq
  obtain ⟨⟨cx, anc, hJ⟩, hK, hI, hu, hM, hqb⟩ := id h
  obtain ⟨hq1, hn⟩ : Q p = 1 ∧ NoC s act p := by
    by_cases e : PBg s p
    · exact hb e
    · exact hb2 e
  obtain ⟨c9, r9, j1, j2⟩ := w_T (n := n) hJ (Int.le_of_eq hM) hq1 hn ap ⟨pre, v, u, PZ_X hpre, hW⟩
  have hl2 : Wrx s p = ((144, p, u) :: (pre ++ (twx s p v).1), pux (s 143 p)) := by
    rw [hW]
    unfold cax
    rw [tw_2 pl]
    rfl
  have tw : (twx s (p : Int) v).1 = (145, p, v) :: (if s 143 p < 0 then [(142, 13, 1)] else []) := by
    unfold twx
    rw [if_pos ⟨by omega, pl⟩, Int.toNat_natCast]
  have hT : (stx (s, Q, n) p).1 = apw (if s 143 p < 0 then [(142, 13, 1)] else []) (up2 (up2 (apw pre s) 144 p u) 145 p v) := by
    show apw (Wrx s p).1 s = _
    rw [hl2]
    dsimp only
    rw [← List.cons_append, apw_app, tw, apw_cons, apw_cons, pz_4 hpre]
  have h13 : ∀ k j, k ≠ 142 → (stx (s, Q, n) p).1 k j = up2 (up2 (apw pre s) 144 p u) 145 p v k j := fun k j hk => by
    rw [hT]
    by_cases e : s 143 p < 0
    · rw [if_pos e]
      exact if_neg (fun q => hk q.1)
    · rw [if_neg e]
      rfl
  have hQ : ∀ r, (stx (s, Q, n) p).2.1 r = (if r = p then 0 else Q r) + (if s 143 p = (r : Int) then 1 else 0) := fun r => by
    show Q r - (if r = p then 1 else 0) + (Wrx s p).2.count (r : Int) = _
    rw [hl2]
    dsimp only
    rw [cn1 (J_143 hJ ap)]
    by_cases e : r = p
    · rw [if_pos e, if_pos e, e, hq1]
    · rw [if_neg e, if_neg e]
      rfl
  refine ⟨(stx (s, Q, n) p).1, (stx (s, Q, n) p).2.1, (stx (s, Q, n) p).2.2, rfl, PS_of h hq j1 j2.2.2, ⟨fun z az zp => ?_, fun z nz => ?_, fun z az => .inl az.1, st_114 (n := n) hJ hq⟩, h13, ?_, hQ, rfl⟩
  · have zp : z ≠ p := zp
    have o : ∀ k, k < 148 → 143 ≤ k → (stx (s, Q, n) p).1 k z = s k z := fun k k1 k2 => by
      rw [h13 k z (by omega)]
      exact (if_neg (by omega)).trans ((if_neg (by omega)).trans (pz_o hpre s (by omega)))
    refine ⟨⟨az, zp⟩, o _ (by omega) (by omega), o _ (by omega) (by omega), o _ (by omega) (by omega), o _ (by omega) (by omega), o _ (by omega) (by omega), fun q => ?_⟩
    rw [hQ, if_neg zp, if_neg q]
    rfl
  · have zp : z ≠ p := fun e => nz (e ▸ ap)
    rw [h13 145 z (by omega)]
    exact (if_neg (by omega)).trans ((if_neg (by omega)).trans (pz_o hpre s (by omega)))
  · rw [hT]
    by_cases e : s 143 p < 0
    · rw [if_pos e, if_pos e]
      show up2 (up2 (up2 (apw pre s) 144 p u) 145 p v) 142 13 1 142 13 = 1
      exact up_self
    · rw [if_neg e, if_neg e]
      show up2 (up2 (apw pre s) 144 p u) 145 p v 142 13 = s 142 13
      exact (if_neg (by omega)).trans ((if_neg (by omega)).trans (pz_o hpre s (by omega)))
/-- a part waits on a line -/
theorem mv_wait (h : PSy M N IN s Q act) (hq : 0 < Q p) {K L : Nat} (hK : K = 152 ∧ s 100 p = 406 ∨ K = 153 ∧ s 100 p = 407) (hL : L = (s 101 p).toNat) (h0 : 0 ≤ s 101 p) (hW : Wrx s p = ([(144, p, trn s p + 1), (K, L, (p : Int))], [])) : ∃ s2 Q2 n2, stx (s, Q, n) p = (s2, Q2, n2) ∧ PSy M N IN s2 Q2 act ∧ MVx s Q act s2 Q2 act (fun z => z = p) p ∧ s2 = up2 (up2 s 144 p (trn s p + 1)) K L (p : Int) ∧ (∀ r, Q2 r = if r = p then 0 else Q r) ∧ n2 = n + (if s 144 p < 0 then 1 else 0) := by
  obtain ⟨ap, ip, pl, pM, hb⟩ := PS_rd h hq
  obtain ⟨⟨cx, anc, hJ⟩, hKJ, hI, hu, hM, hqb⟩ := id h
  obtain ⟨hq1, hn⟩ := hb (fun q => by have := q.1; omega)
  obtain ⟨c9, r9, j1, j2⟩ := w_W1 (n := n) hJ (Int.le_of_eq hM) hq1 hn ap hK hL h0 hW
  have hT : (stx (s, Q, n) p).1 = up2 (up2 s 144 p (trn s p + 1)) K L (p : Int) := by
    show apw (Wrx s p).1 s = _
    rw [hW]
    rfl
  have hQ : ∀ r, (stx (s, Q, n) p).2.1 r = if r = p then 0 else Q r := fun r => by
    show Q r - (if r = p then 1 else 0) + (Wrx s p).2.count (r : Int) = _
    rw [hW]
    dsimp only
    rw [List.count_nil]
    by_cases e : r = p
    · rw [if_pos e, if_pos e, e, hq1]
    · rw [if_neg e, if_neg e]
      rfl
  refine ⟨(stx (s, Q, n) p).1, (stx (s, Q, n) p).2.1, (stx (s, Q, n) p).2.2, rfl, PS_of h hq j1 j2.2.2, ⟨fun z az zp => ?_, fun z nz => ?_, fun z az => .inl az, st_114 (n := n) hJ hq⟩, hT, hQ, rfl⟩
  · have zp : z ≠ p := zp
    have o : ∀ k, k < 148 → 143 ≤ k → (stx (s, Q, n) p).1 k z = s k z := fun k k1 k2 => by
      rw [hT]
      exact (if_neg (by omega)).trans (if_neg (by omega))
    exact ⟨az, o _ (by omega) (by omega), o _ (by omega) (by omega), o _ (by omega) (by omega), o _ (by omega) (by omega), o _ (by omega) (by omega), fun _ => by rw [hQ, if_neg zp]⟩
  · rw [hT]
    exact (if_neg (by omega)).trans (if_neg (by omega))
/-- a value has come in: the part is ready to take it -/
theorem mv_flag (h : PSy M N IN s Q act) (hq : 0 < Q p) (hk : s 100 p = 407) {pre : wrl} {u v : Int} (hpre : ∀ w ∈ pre, 154 ≤ w.1) (hW : Wrx s p = ((144, p, u) :: (pre ++ [(145, p, v), (147, p, 1)]), pux (p : Int))) : ∃ s2 Q2 n2, stx (s, Q, n) p = (s2, Q2, n2) ∧ PSy M N IN s2 Q2 act ∧ MVx s Q act s2 Q2 act (fun z => z = p) p ∧ s2 = up2 (up2 (up2 (apw pre s) 144 p u) 145 p v) 147 p 1 ∧ (∀ r, Q2 r = Q r) ∧ n2 = n + (if s 144 p < 0 then 1 else 0) := by
  obtain ⟨ap, ip, pl, pM, hb⟩ := PS_rd h hq
  obtain ⟨⟨cx, anc, hJ⟩, hKJ, hI, hu, hM, hqb⟩ := id h
  obtain ⟨hq1, hn⟩ := hb (fun q => by have := q.1; omega)
  have hp2 : PREx p (pre ++ [(145, p, v), (147, p, 1)]) := fun w hw => by
    rcases List.mem_append.mp hw with q | q
    · have := hpre w q
      exact ⟨by omega, by omega, by omega, by omega, by omega, fun q => by omega⟩
    · rcases List.mem_cons.mp q with q | q
      · rw [q]
        exact ⟨by show 114 < 145; omega, by show (145 : Nat) ≠ 143; omega, by show (145 : Nat) ≠ 144; omega, by show (145 : Nat) ≠ 152; omega, by show (145 : Nat) ≠ 153; omega, fun q => absurd (show (145 : Nat) = 146 from q) (by omega)⟩
      · rw [List.mem_singleton] at q
        rw [q]
        exact ⟨by show 114 < 147; omega, by show (147 : Nat) ≠ 143; omega, by show (147 : Nat) ≠ 144; omega, by show (147 : Nat) ≠ 152; omega, by show (147 : Nat) ≠ 153; omega, fun q => absurd (show (147 : Nat) = 146 from q) (by omega)⟩
  have ks : KSx s p (Wrx s p) := ⟨_, u, hp2, hk, hW⟩
  obtain ⟨c9, r9, j1, j2⟩ := w_S (n := n) hJ (Int.le_of_eq hM) hq1 hn ap ks (KS_ho hJ ap ks)
  have hT : (stx (s, Q, n) p).1 = up2 (up2 (up2 (apw pre s) 144 p u) 145 p v) 147 p 1 := by
    show apw (Wrx s p).1 s = _
    rw [hW]
    dsimp only
    rw [← List.cons_append, apw_app, apw_cons, apw_cons, apw_nil, apw_cons, apw_up pre s 144 p u (fun w hw q => by have := hpre w hw; omega)]
  have hQ : ∀ r, (stx (s, Q, n) p).2.1 r = Q r := fun r => by
    show Q r - (if r = p then 1 else 0) + (Wrx s p).2.count (r : Int) = _
    rw [hW]
    dsimp only
    have h2 := hJ.2.1
    rw [cn1 (by omega)]
    by_cases e : r = p
    · rw [if_pos e, if_pos (by omega), e, hq1]
    · rw [if_neg e, if_neg (by omega)]
      rfl
  have o : ∀ k j, k < 154 → ¬ ((k = 144 ∨ k = 145 ∨ k = 147) ∧ j = p) → (stx (s, Q, n) p).1 k j = s k j := fun k j k1 k2 => by
    rw [hT]
    exact (if_neg (by omega)).trans ((if_neg (by omega)).trans ((if_neg (by omega)).trans (apw_o pre s k j (fun w hw q => by have := hpre w hw; omega))))
  refine ⟨(stx (s, Q, n) p).1, (stx (s, Q, n) p).2.1, (stx (s, Q, n) p).2.2, rfl, PS_of h hq j1 j2.2.2, ⟨fun z az zp => ?_, fun z nz => ?_, fun z az => .inl az, st_114 (n := n) hJ hq⟩, hT, hQ, rfl⟩
  · have zp : z ≠ p := zp
    exact ⟨az, o _ _ (by omega) (by omega), o _ _ (by omega) (by omega), o _ _ (by omega) (by omega), o _ _ (by omega) (by omega), o _ _ (by omega) (by omega), fun _ => hQ z⟩
  · have zp : z ≠ p := fun e => nz (e ▸ ap)
    exact o _ _ (by omega) (by omega)
/-- a PAR counts a branch that is done -/
theorem mv_cnt (h : PSy M N IN s Q act) (hq : 0 < Q p) (hb : PBg s p) (hne : s 144 p ≠ s 102 p) : ∃ s2 Q2 n2, stx (s, Q, n) p = (s2, Q2, n2) ∧ PSy M N IN s2 Q2 act ∧ MVx s Q act s2 Q2 act (fun z => z = p) p ∧ s2 = up2 s 144 p (s 144 p + 1) ∧ (∀ r, Q2 r = if r = p then Q p - 1 else Q r) ∧ n2 = n := by
  obtain ⟨ap, ip, pl, pM, _⟩ := PS_rd h hq
  obtain ⟨⟨cx, anc, hJ⟩, hKJ, hI, hu, hM, hqb⟩ := id h
  have b2 := hb.2
  have ht : trn s p = s 144 p := if_neg (by omega)
  have hW := noop_W (s := s) (p := p) hb.1 (by omega) (by omega)
  have hT : (stx (s, Q, n) p).1 = up2 s 144 p (s 144 p + 1) := by
    show apw (Wrx s p).1 s = _
    rw [hW, ht]
    rfl
  have hQ : ∀ r, (stx (s, Q, n) p).2.1 r = if r = p then Q p - 1 else Q r := fun r => by
    show Q r - (if r = p then 1 else 0) + (Wrx s p).2.count (r : Int) = _
    rw [hW]
    dsimp only
    rw [List.count_nil]
    by_cases e : r = p
    · rw [if_pos e, if_pos e, e]
      rfl
    · rw [if_neg e, if_neg e]
      rfl
  obtain ⟨c9, r9, j1⟩ := J_count hJ hq hb hT hQ
  have o : ∀ k j, ¬ (k = 144 ∧ j = p) → (stx (s, Q, n) p).1 k j = s k j := fun k j q => by
    rw [hT]
    exact if_neg q
  refine ⟨(stx (s, Q, n) p).1, (stx (s, Q, n) p).2.1, (stx (s, Q, n) p).2.2, rfl, PS_of h hq j1 (fun q aq => .inl ⟨aq, o 143 q (by omega)⟩), ⟨fun z az zp => ?_, fun z nz => o _ _ (by omega), fun z az => .inl az, st_114 (n := n) hJ hq⟩, hT, hQ, ?_⟩
  · have zp : z ≠ p := zp
    exact ⟨az, o _ _ (by omega), o _ _ (by omega), o _ _ (by omega), o _ _ (by omega), o _ _ (by omega), fun _ => by rw [hQ, if_neg zp]⟩
  · show n + (if s 144 p < 0 then 1 else 0) = n
    rw [if_neg (by omega)]
    rfl
/-- a PAR begins -/
theorem mv_par (h : PSy M N IN s Q act) (hq : 0 < Q p) (hk : s 100 p = 312) (h0 : s 144 p = -1) : ∃ s2 Q2 n2, stx (s, Q, n) p = (s2, Q2, n2) ∧ PSy M N IN s2 Q2 (fun q => act q ∨ ∃ i, i < (s 102 p).toNat ∧ q = (nth s i (s 101 p)).toNat) ∧ MVx s Q act s2 Q2 (fun q => act q ∨ ∃ i, i < (s 102 p).toNat ∧ q = (nth s i (s 101 p)).toNat) (fun z => z = p) p ∧ (∀ i, i < (s 102 p).toNat → 0 ≤ nth s i (s 101 p) ∧ nth s i (s 101 p) < (p : Int) ∧ ¬ act (nth s i (s 101 p)).toNat ∧ s2 143 (nth s i (s 101 p)).toNat = (p : Int) ∧ s2 144 (nth s i (s 101 p)).toNat = -1 ∧ Q2 (nth s i (s 101 p)).toNat = 1) ∧ (∀ i j, i < (s 102 p).toNat → j < (s 102 p).toNat → nth s i (s 101 p) = nth s j (s 101 p) → i = j) ∧ s2 144 p = 1 ∧ s2 143 p = s 143 p ∧ Q2 p = 0 ∧ (∀ k j, k ≠ 143 → k ≠ 144 → s2 k j = s k j) ∧ (∀ r, r ≠ p → (∀ i, i < (s 102 p).toNat → r ≠ (nth s i (s 101 p)).toNat) → Q2 r = Q r) ∧ (2 ≤ s 102 p ∧ s 102 p ≤ 6) ∧ n2 = n + 1 := by
  obtain ⟨ap, ip, pl, pM, hb⟩ := PS_rd h hq
  obtain ⟨⟨cx, anc, hJ⟩, hKJ, hI, hu, hM, hqb⟩ := id h
  obtain ⟨hq1, hn⟩ := hb (fun q => by have := q.2; omega)
  have ht : trn s p = 0 := if_pos (by omega)
  obtain ⟨c9, r9, j1, j2⟩ := w_P (n := n) hJ (Int.le_of_eq hM) hq1 hn ap hk ht
  have hW : Wrx s p = cax ([(144, p, 1)], []) (bwx s p (s 102 p).toNat (s 101 p)) := by
    unfold Wrx gwx
    rw [if_neg (fun q => absurd (q.1.symm.trans hk) (by decide)), hk, if_neg (by decide), if_neg (by decide), if_neg (by decide), if_neg (by decide), if_neg (by decide), if_neg (by decide), if_neg (by decide), if_pos rfl, if_pos ht, ht]
    rfl
  obtain ⟨_, hlt, _, _, _, _, _, _, _, _, _, _, _, _, _, k13⟩ := EF_k (hJ.2.2.1 p ap).1
  obtain ⟨⟨g1, g2⟩, cs, g3, g4⟩ := k13 hk
  have hz := hJ.2.1
  obtain ⟨m, hm⟩ : ∃ m : Nat, m = (s 102 p).toNat := ⟨_, rfl⟩
  rw [← hm] at hW g3 g4 j1 j2 ⊢
  have inj : ∀ i j, i < m → j < m → nth s i (s 101 p) = nth s j (s 101 p) → i = j := fun i j hi hj e => Classical.byContradiction fun ne => by
    have a := EF_p (g3 i hi).2.2.2.2
    have b := EF_p (g3 j hj).2.2.2.2
    rw [e] at a
    exact (g4 i j hi hj ne).1 _ ⟨a, b⟩
  have rng : ∀ i, i < m → 0 ≤ nth s i (s 101 p) ∧ nth s i (s 101 p) < s 99 12 := fun i hi => by
    have := (g3 i hi).2.2
    exact ⟨this.1, by have := this.2.1; omega⟩
  obtain ⟨a1, a2, a3, a4, a5⟩ := bw_t (p := p) m (s 101 p) (up2 s 144 p 1) rng hz inj
  have pn : ∀ i, i < m → (p : Int) ≠ nth s i (s 101 p) := fun i hi e => by
    have := (g3 i hi).2.2.2.1
    omega
  have hT : (stx (s, Q, n) p).1 = apw (bwx s p m (s 101 p)).1 (up2 s 144 p 1) := by
    show apw (Wrx s p).1 s = _
    rw [hW]
    rfl
  have hQ : ∀ r, (stx (s, Q, n) p).2.1 r = Q r - (if r = p then 1 else 0) + (bwx s p m (s 101 p)).2.count (r : Int) := fun r => by
    show Q r - (if r = p then 1 else 0) + (Wrx s p).2.count (r : Int) = _
    rw [hW]
    rfl
  have nc : ∀ i, i < m → ¬ act (nth s i (s 101 p)).toNat := fun i hi ac => by
    obtain ⟨b1, b2, b3, b4, b5⟩ := g3 i hi
    have hcp : (nth s i (s 101 p)).toNat ≠ p := by omega
    rcases hJ.2.2.2.2.2.1 _ p ac ap hcp with w | w | w
    · have := (hJ.2.2.2.2.1 _ p w).2.2.1
      omega
    · exact J_anc hJ hn w
    · exact w.1 _ ⟨EF_p (hJ.2.2.1 _ ac).1, b1.1 _ (EF_p b5)⟩
  have no : ∀ k j, k ≠ 143 → k ≠ 144 → (stx (s, Q, n) p).1 k j = s k j := fun k j q1 q2 => by
    rw [hT, a1 k j q1 q2]
    exact if_neg (by omega)
  have Qo : ∀ r, r ≠ p → (∀ i, i < m → r ≠ (nth s i (s 101 p)).toNat) → (stx (s, Q, n) p).2.1 r = Q r := fun r q1 q2 => by
    rw [hQ, if_neg q1, a4 r (fun i hi e => q2 i hi (by rw [← e, Int.toNat_natCast]))]
    rfl
  refine ⟨(stx (s, Q, n) p).1, (stx (s, Q, n) p).2.1, (stx (s, Q, n) p).2.2, rfl, PS_of h hq j1 j2.2.2, ⟨fun z az zp => ?_, fun z nz => no 145 z (by omega) (by omega), fun z az => ?_, st_114 (n := n) hJ hq⟩, fun i hi => ?_, inj, ?_, ?_, ?_, no, Qo, ⟨g1, g2⟩, ?_⟩
  · have zp : z ≠ p := zp
    have zn : ∀ i, i < m → (z : Int) ≠ nth s i (s 101 p) := fun i hi e => nc i hi (by rw [← e, Int.toNat_natCast]; exact az)
    have o : ∀ k, (stx (s, Q, n) p).1 k z = s k z := fun k => by
      rw [hT, a2 k z zn]
      exact if_neg (by omega)
    exact ⟨.inl az, o _, o _, o _, o _, o _, fun _ => Qo z zp (fun i hi e => zn i hi (by have := rng i hi; omega))⟩
  · rcases az with az | ⟨i, hi, e⟩
    · exact .inl az
    · refine .inr (.inl ((CH_312 hk).mpr ⟨i, by omega, ?_⟩))
      have := rng i hi
      omega
  · have r1 := rng i hi
    have b4 := (g3 i hi).2.2.2.1
    refine ⟨r1.1, b4, nc i hi, by rw [hT]; exact (a3 i hi).1, by rw [hT]; exact (a3 i hi).2, ?_⟩
    have qc : Q (nth s i (s 101 p)).toNat = 0 := Classical.byContradiction fun w => nc i hi (hJ.2.2.2.2.2.2.1 _ (by omega)).1
    rw [hQ, if_neg (by omega), Int.toNat_of_nonneg r1.1, a5 i hi, qc]
  · rw [hT, a2 144 p pn]
    exact up_self
  · rw [hT, a2 143 p pn]
    exact if_neg (by omega)
  · rw [hQ, if_pos rfl, a4 p pn, hq1]
  · show n + (if s 144 p < 0 then 1 else 0) = n + 1
    rw [if_pos (by omega)]
end MOVES
