/-! Turns of two parts commute. -/
abbrev PMt : Type := tab × (Nat → Nat) × Nat
def stx (x : PMt) (p : Nat) : PMt := (apw (Wrx x.1 p).1 x.1, fun q => x.2.1 q - (if q = p then 1 else 0) + (Wrx x.1 p).2.count (q : Int), x.2.2 + (if x.1 144 p < 0 then 1 else 0))
def rdx (x : PMt) (p : Nat) : Prop := 0 < x.2.1 p
def NoC (s : tab) (act : Nat → Prop) (p : Nat) : Prop := ∀ q, act q → s 143 q ≠ (p : Int)
/-- a PAR that has begun its branches -/
def PBg (s : tab) (p : Nat) : Prop := s 100 p = 312 ∧ 1 ≤ s 144 p
/-- who waits on a line, of kind k -/
def WTx (s : tab) (Q : Nat → Nat) (act : Nat → Prop) (k : Int) (L : Nat) (z : Int) : Prop := -1 ≤ z ∧ (0 ≤ z → act z.toNat ∧ Q z.toNat = 0 ∧ NoC s act z.toNat ∧ s 100 z.toNat = k ∧ s 101 z.toNat = (L : Int) ∧ 0 ≤ s 144 z.toNat)
def JGx (s : tab) (Q : Nat → Nat) (act : Nat → Prop) (cx : Nat → Cxx) (anc : Nat → Nat → Prop) : Prop :=
  SZx s ∧ s 99 12 ≤ 2000 ∧
  (∀ p, act p → EF s (cx p) p ∧ PHx s p) ∧
  (∀ p, act p → s 143 p = -1 ∨ ∃ y : Nat, s 143 p = (y : Int) ∧ act y ∧ anc y p ∧ ∀ z, anc z p → z = y ∨ anc z y) ∧
  (∀ z p, anc z p → act z ∧ act p ∧ p < z ∧ (s 100 z = 312 → ¬ (cx p).1 z) ∧ ∃ q, act q ∧ s 143 q = (z : Int) ∧ (q = p ∨ anc q p)) ∧
  (∀ p q, act p → act q → p ≠ q → anc p q ∨ anc q p ∨ NCx (cx p) (cx q)) ∧
  (∀ p, 0 < Q p → act p ∧ (¬ PBg s p → Q p = 1 ∧ NoC s act p)) ∧
  (∀ L, L < 12 → WTx s Q act 406 L (s 152 L) ∧ WTx s Q act 407 L (s 153 L)) ∧
  (∀ y, act y → PBg s y → ∃ l : List Nat, l.Nodup ∧ (∀ q, q ∈ l ↔ act q ∧ s 143 q = (y : Int)) ∧ (l.length : Int) + (Q y : Int) + s 144 y = s 102 y + 1) ∧
  (∀ y, act y → s 100 y ≠ 312 → ∀ q r, act q → act r → s 143 q = (y : Int) → s 143 r = (y : Int) → q = r) ∧
  (∀ p q, act p → act q → s 143 p = -1 → s 143 q = -1 → p = q) ∧
  (∀ y, act y → s 100 y = 312 → s 144 y < 1 → NoC s act y)
section COMM
variable {s : tab} {Q : Nat → Nat} {act : Nat → Prop} {cx : Nat → Cxx} {anc : Nat → Nat → Prop} {p q : Nat}
theorem J_anc (h : JGx s Q act cx anc) {z r : Nat} (hz : NoC s act z) : ¬ anc z r := fun k => by
  obtain ⟨_, _, _, _, w, w1, w2, _⟩ := h.2.2.2.2.1 z r k
  exact hz w w1 w2
/-- parts that go on or wait, but begun PARs: no child -/
def LFx (s : tab) (Q : Nat → Nat) (act : Nat → Prop) (p : Nat) : Prop := act p ∧ NoC s act p
theorem J_nc (h : JGx s Q act cx anc) (hp : LFx s Q act p) (hq : LFx s Q act q) (hne : p ≠ q) : NCx (cx p) (cx q) := by
  rcases h.2.2.2.2.2.1 p q hp.1 hq.1 hne with k | k | k
  · exact absurd k (J_anc h hp.2)
  · exact absurd k (J_anc h hq.2)
  · exact k
theorem J_lf (h : JGx s Q act cx anc) (hp : 0 < Q p) (hb : ¬ PBg s p) : LFx s Q act p := ⟨(h.2.2.2.2.2.2.1 p hp).1, ((h.2.2.2.2.2.2.1 p hp).2 hb).2⟩
theorem CM_nb (hc : CMx s p) : ¬ PBg s p := fun k => by
  rcases hc.2 with ⟨e, _⟩ | ⟨e, _⟩
  · rw [k.1] at e
    exact absurd e (by decide)
  · rw [k.1] at e
    exact absurd e (by decide)
/-- the one at the other end -/
theorem J_pt (h : JGx s Q act cx anc) (hp : 0 < Q p) (hc : CMx s p) (hr : 0 ≤ prx s p) : LFx s Q act (prx s p).toNat ∧ Q (prx s p).toNat = 0 ∧ EF s (cx (prx s p).toNat) (prx s p).toNat ∧ s 101 (prx s p).toNat = s 101 p ∧ (s 100 p = 406 → s 100 (prx s p).toNat = 407) ∧ (s 100 p = 407 → s 100 (prx s p).toNat = 406) := by
  have ha := (h.2.2.2.2.2.2.1 p hp).1
  obtain ⟨_, _, _, _, _, _, _, _, _, k7, k8, _⟩ := EF_k (h.2.2.1 p ha).1
  have hL := h.2.2.2.2.2.2.2.1 (s 101 p).toNat (by have := hc.1; omega)
  unfold prx at hr ⊢
  by_cases k : s 100 p = 406
  · rw [if_pos k] at hr ⊢
    have h0 := (k7 k).1.1
    obtain ⟨w1, w2, w3, w4, w5, _⟩ := hL.2.2 hr
    rw [Int.toNat_of_nonneg h0] at w5
    exact ⟨⟨w1, w3⟩, w2, (h.2.2.1 _ w1).1, w5, fun _ => w4, fun e => absurd (k.symm.trans e) (by decide)⟩
  · rw [if_neg k] at hr ⊢
    have k2 : s 100 p = 407 := by
      rcases hc.2 with q | q
      · exact absurd q.1 k
      · exact q.1
    have h0 := (k8 k2).1.1
    obtain ⟨w1, w2, w3, w4, w5, _⟩ := hL.1.2 hr
    rw [Int.toNat_of_nonneg h0] at w5
    exact ⟨⟨w1, w3⟩, w2, (h.2.2.1 _ w1).1, w5, fun e => absurd e k, fun _ => w4⟩
theorem J_ptn (h : JGx s Q act cx anc) (hp : 0 < Q p) : PTn s (cx (prx s p).toNat) p := fun hc hr => (J_pt h hp hc hr).2.2
theorem Wr_hd : ∃ v, (144, p, v) ∈ (Wrx s p).1 := by
  unfold Wrx
  split
  · exact ⟨_, List.mem_append.mpr (.inl (List.mem_cons_self))⟩
  · exact ⟨_, List.mem_append.mpr (.inl (List.mem_cons_self))⟩
theorem cm0 {x : PMt} (hp : rdx x p) (hq : rdx x q) (hne : p ≠ q) (e1 : Wrx (apw (Wrx x.1 p).1 x.1) q = Wrx x.1 q) (e2 : Wrx (apw (Wrx x.1 q).1 x.1) p = Wrx x.1 p) (hd : ∀ w ∈ (Wrx x.1 p).1, ∀ v ∈ (Wrx x.1 q).1, ¬ (w.1 = v.1 ∧ w.2.1 = v.2.1)) : stx (stx x p) q = stx (stx x q) p := by
  have f1 : apw (Wrx x.1 p).1 x.1 144 q = x.1 144 q := apw_o _ _ _ _ (fun w hw => hd w hw _ (Wr_hd (s := x.1) (p := q)).choose_spec)
  have f2 : apw (Wrx x.1 q).1 x.1 144 p = x.1 144 p := apw_o _ _ _ _ (fun w hw k => hd _ (Wr_hd (s := x.1) (p := p)).choose_spec w hw ⟨k.1.symm, k.2.symm⟩)
  have hp : 0 < x.2.1 p := hp
  have hq : 0 < x.2.1 q := hq
  unfold stx
  dsimp only
  rw [e1, e2]
  refine Prod.ext ?_ (Prod.ext ?_ ?_)
  · exact (apw_comm _ _ _ hd).symm
  · funext r
    dsimp only
    by_cases r1 : r = p
    · subst r1
      rw [if_pos rfl, if_neg hne]
      omega
    · rw [if_neg r1]
      by_cases r2 : r = q
      · subst r2
        rw [if_pos rfl]
        omega
      · rw [if_neg r2]
        omega
  · simp only [f1, f2]
    omega
theorem st_ok {x : PMt} (hq : rdx x q) (hne : p ≠ q) : rdx (stx x p) q := by
  have hq : 0 < x.2.1 q := hq
  show 0 < x.2.1 q - (if q = p then 1 else 0) + _
  rw [if_neg (fun e => hne e.symm)]
  omega
/-- a begun PAR with a branch still at work -/
theorem J_noop (h : JGx s Q act cx anc) (hp : 0 < Q p) (hc : ¬ NoC s act p) : PBg s p ∧ trn s p = s 144 p ∧ s 144 p < s 102 p := by
  have h5 := h.2.2.2.2.2.2.1 p hp
  have hb : PBg s p := Classical.byContradiction fun k => hc (h5.2 k).2
  obtain ⟨l, l1, l2, l3⟩ := h.2.2.2.2.2.2.2.2.1 p h5.1 hb
  have hl : 0 < l.length := by
    cases l with
    | nil => exact absurd (fun q hq k => by cases (l2 q).mpr ⟨hq, k⟩) hc
    | cons a l => exact Nat.succ_pos _
  have h1 := hb.2
  refine ⟨hb, if_neg (by omega), by omega⟩
theorem noop_W (hk : s 100 p = 312) (h0 : trn s p ≠ 0) (h1 : trn s p ≠ s 102 p) : Wrx s p = ([(144, p, trn s p + 1)], []) := by
  unfold Wrx gwx
  rw [if_neg (fun q => absurd (q.1.symm.trans hk) (by decide)), hk, if_neg (by decide), if_neg (by decide), if_neg (by decide), if_neg (by decide), if_neg (by decide), if_neg (by decide), if_neg (by decide), if_pos rfl, if_neg h0, if_neg h1]
  rfl
theorem FC_no {k j : Nat} (h : FCx s p k j) (h2 : FRx (cx q) k j) (ha : 0 ≤ s 101 p) : False := by
  obtain ⟨hc, hk, hj⟩ := h
  have h8 := hc.1
  rcases h2 with q | q | q | ⟨L, b1, b2, b3⟩
  · omega
  · omega
  · omega
  · omega
theorem W_114 {c d : Cxx} (hw : ∀ w ∈ (Wrx s p).1, FW2 s c d p w.1 w.2.1 ∨ w = (142, 13, 1) ∧ (s 143 p < 0 ∨ CMx s p ∧ 0 ≤ prx s p ∧ s 143 (prx s p).toNat < 0)) : ∀ k j, 99 ≤ k ∧ k ≤ 114 → apw (Wrx s p).1 s k j = s k j := fun k j hk => by
  refine apw_o _ _ _ _ (fun w h e => ?_)
  rcases hw w h with q | ⟨q, _⟩
  · rcases q with q | ⟨_, _, q⟩ | ⟨_, q, _⟩
    · rcases q with q | q | q | q
      · omega
      · omega
      · omega
      · have := LN_k q
        omega
    · rcases q with q | q | q | q
      · omega
      · omega
      · omega
      · have := LN_k q
        omega
    · omega
  · rw [q] at e
    have := e.1
    dsimp only at this
    omega
/-- both without a branch below -/
theorem cm_A (h : JGx s Q act cx anc) {n : Nat} (hp : 0 < Q p) (hq : 0 < Q q) (hne : p ≠ q) (np : NoC s act p) (nq : NoC s act q) (hl : ¬ (CMx s p ∧ CMx s q ∧ s 101 p = s 101 q)) : stx (stx (s, Q, n) p) q = stx (stx (s, Q, n) q) p := by
  have ap := (h.2.2.2.2.2.2.1 p hp).1
  have aq := (h.2.2.2.2.2.2.1 q hq).1
  have hz := h.1
  obtain ⟨fp, pp⟩ := h.2.2.1 p ap
  obtain ⟨fq, pq⟩ := h.2.2.1 q aq
  have tp := J_ptn h hp
  have tq := J_ptn h hq
  have wp := W2_w hz fp pp tp
  have wq := W2_w hz fq pq tq
  have nc : ∀ {a b : Nat}, LFx s Q act a → LFx s Q act b → a ≠ b → NCx (cx a) (cx b) := fun ha hb hn => J_nc h ha hb hn
  have lp : LFx s Q act p := ⟨ap, np⟩
  have lq : LFx s Q act q := ⟨aq, nq⟩
  have line : ∀ {r : Nat}, CMx s r → act r → 0 ≤ s 101 r := fun hc ha => by
    obtain ⟨_, _, _, _, _, _, _, _, _, k7, k8, _⟩ := EF_k (h.2.2.1 _ ha).1
    rcases hc.2 with ⟨k, _⟩ | ⟨k, _⟩
    · exact (k7 k).1.1
    · exact (k8 k).1.1
  have key : ∀ {a b : Nat} {k j : Nat}, 0 < Q a → 0 < Q b → LFx s Q act a → LFx s Q act b → a ≠ b → ¬ (CMx s a ∧ CMx s b ∧ s 101 a = s 101 b) → FW2 s (cx a) (cx (prx s a).toNat) a k j → FR2 s (cx b) (cx (prx s b).toNat) b k j → False := by
    intro a b k j qa qb la lb hab hline h1 h2
    rcases h1 with h1 | ⟨c1, r1, h1⟩ | h1
    · rcases h2 with h2 | ⟨c2, r2, h2⟩ | h2
      · exact FW_nc (nc la lb hab) h1 h2
      · obtain ⟨l2, z2, _⟩ := J_pt h qb c2 r2
        exact FW_nc (nc la l2 (fun e => by rw [← e] at z2; omega)) h1 h2
      · exact FC_no h2 (FW_R (EF_k (h.2.2.1 a la.1).1).2.2.1 h1) (line h2.1 lb.1)
    · obtain ⟨l1, z1, e1⟩ := J_pt h qa c1 r1
      rcases h2 with h2 | ⟨c2, r2, h2⟩ | h2
      · exact FW_nc (nc l1 lb (fun e => by rw [e] at z1; omega)) h1 h2
      · obtain ⟨l2, z2, e2⟩ := J_pt h qb c2 r2
        refine FW_nc (nc l1 l2 (fun e => hline ⟨c1, c2, ?_⟩)) h1 h2
        rw [← e1.2.1, ← e2.2.1, e]
      · exact FC_no h2 (FW_R (EF_k e1.1).2.2.1 h1) (line h2.1 lb.1)
    · rcases h2 with h2 | ⟨c2, r2, h2⟩ | h2
      · exact FC_no h1 h2 (line h1.1 la.1)
      · exact FC_no h1 h2 (line h1.1 la.1)
      · refine hline ⟨h1.1, h2.1, ?_⟩
        have e1 := h1.2.2
        have e2 := h2.2.2
        have := line h1.1 la.1
        have := line h2.1 lb.1
        omega
  have hl2 : ¬ (CMx s q ∧ CMx s p ∧ s 101 q = s 101 p) := fun k => hl ⟨k.2.1, k.1, k.2.2.symm⟩
  have au : ∀ {a : Nat} {k j : Nat}, 0 < Q a → act a → FW2 s (cx a) (cx (prx s a).toNat) a k j → FR2 s (cx a) (cx (prx s a).toNat) a k j := fun qa aa h1 => by
    rcases h1 with h1 | ⟨c1, r1, h1⟩ | h1
    · exact .inl (FW_R (EF_k (h.2.2.1 _ aa).1).2.2.1 h1)
    · exact .inr (.inl ⟨c1, r1, FW_R (EF_k (J_pt h qa c1 r1).2.2.1).2.2.1 h1⟩)
    · exact .inr (.inr h1)
  have ns : ∀ {a : Nat} {k j : Nat}, FR2 s (cx a) (cx (prx s a).toNat) a k j → k ≠ 142 := fun h1 e => by
    subst e
    rcases h1 with h1 | ⟨_, _, h1⟩ | ⟨_, h1, _⟩
    · rcases h1 with q | q | q | q
      · omega
      · omega
      · omega
      · have := LN_k q
        omega
    · rcases h1 with q | q | q | q
      · omega
      · omega
      · omega
      · have := LN_k q
        omega
    · omega
  have main : ∀ {a : Nat}, 0 < Q a → act a → (s 143 a < 0 ∨ CMx s a ∧ 0 ≤ prx s a ∧ s 143 (prx s a).toNat < 0) → ∃ r, LFx s Q act a → act r ∧ s 143 r = -1 ∧ (r = a ∨ CMx s a ∧ 0 ≤ prx s a ∧ r = (prx s a).toNat) := fun {a} qa aa hm => by
    have neg : ∀ {r : Nat}, act r → s 143 r < 0 → s 143 r = -1 := fun ar hr => by
      rcases h.2.2.2.1 _ ar with k | ⟨y, k, _⟩
      · exact k
      · rw [k] at hr
        omega
    rcases hm with hm | ⟨c1, r1, hm⟩
    · exact ⟨a, fun _ => ⟨aa, neg aa hm, .inl rfl⟩⟩
    · have := (J_pt h qa c1 r1).1.1
      exact ⟨(prx s a).toNat, fun _ => ⟨this, neg this hm, .inr ⟨c1, r1, rfl⟩⟩⟩
  have hs1 := W_114 wp
  have hs2 := W_114 wq
  have e1 : Wrx (apw (Wrx s p).1 s) q = Wrx s q := by
    refine W2_e hz fq pq tq hs1 (fun k j h2 => apw_o _ _ _ _ (fun w hw e => ?_))
    rcases wp w hw with h1 | ⟨h1, _⟩
    · rw [e.1, e.2] at h1
      exact key hp hq lp lq hne hl h1 h2
    · rw [h1] at e
      exact ns h2 e.1.symm
  have e2 : Wrx (apw (Wrx s q).1 s) p = Wrx s p := by
    refine W2_e hz fp pp tp hs2 (fun k j h2 => apw_o _ _ _ _ (fun w hw e => ?_))
    rcases wq w hw with h1 | ⟨h1, _⟩
    · rw [e.1, e.2] at h1
      exact key hq hp lq lp (fun z => hne z.symm) hl2 h1 h2
    · rw [h1] at e
      exact ns h2 e.1.symm
  refine cm0 (x := (s, Q, n)) hp hq hne e1 e2 (fun w hw v hv e => ?_)
  rcases wp w hw with h1 | ⟨h1, m1⟩
  · rcases wq v hv with h2 | ⟨h2, _⟩
    · rw [← e.1, ← e.2] at h2
      exact key hp hq lp lq hne hl h1 (au hq aq h2)
    · rw [h2] at e
      exact ns (au hp ap h1) e.1
  · rcases wq v hv with h2 | ⟨h2, m2⟩
    · rw [h1] at e
      exact ns (au hq aq h2) e.1.symm
    · obtain ⟨r, hr⟩ := main hp ap m1
      obtain ⟨u, hu⟩ := main hq aq m2
      obtain ⟨r1, r2, r3⟩ := hr lp
      obtain ⟨u1, u2, u3⟩ := hu lq
      have eru := h.2.2.2.2.2.2.2.2.2.2.1 r u r1 u1 r2 u2
      rcases r3 with r3 | ⟨c1, z1, r3⟩ <;> rcases u3 with u3 | ⟨c2, z2, u3⟩
      · exact hne (by rw [← r3, ← u3, eru])
      · have := (J_pt h hq c2 z2).2.1
        rw [← u3, ← eru, r3] at this
        omega
      · have := (J_pt h hp c1 z1).2.1
        rw [← r3, eru, u3] at this
        omega
      · refine hl ⟨c1, c2, ?_⟩
        rw [← (J_pt h hp c1 z1).2.2.2.1, ← (J_pt h hq c2 z2).2.2.2.1, ← r3, ← u3, eru]
end COMM
