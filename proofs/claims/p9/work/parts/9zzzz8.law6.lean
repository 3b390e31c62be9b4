/-! Between the law's calls. -/
section LAW6
variable {K : SCt} {M n C D : Nat} {c c2 : Int} {r r2 t t1 e e2 : tab} {s s1 s2 : rS}
theorem BTW_up (h : BTW K M c t e) (hc : c ≤ c2) : BTW K M c2 t e := ⟨h.1, h.2.1, fun j => Int.le_trans (h.2.2.1 j) hc, h.2.2.2⟩
theorem STK_of (h : PGx r r2) (hz : SZx r) : ∃ (K : SCt) (M : Nat), K.1 = r ∧ K.2.1 = r2 ∧ STK K M := by
  obtain ⟨G, N, L, IN, h1, h2, h3⟩ := PG_S h
  obtain ⟨c, e1, e2, e3, e4⟩ := PG_EF h
  refine ⟨(r, r2, G, N, L, IN), (r 99 12).toNat, rfl, rfl, h1, fun z hz2 hk => ?_, hz, ?_, c, e1⟩
  · obtain ⟨md, n, a, b, x, f, l, k0, k1, q, c2, w1, w2, w3, w4⟩ := h3 z hz2
    exact PU_s h2 w1 w4 w2 w3 hk
  · show r 99 12 = ((r 99 12).toNat : Int)
    omega
theorem run_c (hS : STK K M) (hB : BTW K M c t e) (hc : 0 ≤ c ∧ c + 2000000 < 2147483646) (h96 : t 96 3 = 1) (h20 : e 170 20 = 1) {x z1 z2 : Int} (h1 : wG 43 [x] t = some (some (z1, t1))) (h2 : eG 12 [x] e = some (some (z2, e2))) : z1 = z2 ∧ BTW K M (c + 2000000) t1 e2 := by
  have st := BTW_st hB
  have up := BTW_up (c2 := c + 2000000) hB (by omega)
  rw [wG_81] at h1
  unfold wM81 at h1
  rw [if_pos (by omega)] at h1
  have bad : inz x 1 20000 = 0 ∨ e 170 52 = 3 → some (some (z1, t1)) = some (some (-1, t)) → z1 = z2 ∧ BTW K M (c + 2000000) t1 e2 := fun q w => by
    cases w
    rw [eG_162] at h2
    unfold eM162 at h2
    rw [if_pos (by omega)] at h2
    by_cases a : inz x 1 20000 = 0
    · rw [if_pos a] at h2
      cases h2
      exact ⟨rfl, up⟩
    · rw [if_neg a, if_neg (fun w => w (q.resolve_left a))] at h2
      cases h2
      exact ⟨rfl, up⟩
  by_cases a : x < 1
  · rw [if_pos a] at h1
    refine bad (.inl ?_) h1.symm
    unfold inz
    rw [if_neg (by omega)]
  rw [if_neg a] at h1
  by_cases b : 20000 < x
  · rw [if_pos b] at h1
    refine bad (.inl ?_) h1.symm
    unfold inz
    rw [if_neg (by omega)]
  rw [if_neg b] at h1
  by_cases d : t 142 14 ≠ 3
  · rw [if_pos d] at h1
    obtain ⟨z, rq, tq, w1, w2, w3, w4⟩ := rn_eq hS hB hc ⟨by omega, by omega⟩ d (by omega) h2
    rw [w2, bo_s] at h1
    cases w1
    cases h1
    exact ⟨w3, w4⟩
  · rw [if_neg d] at h1
    exact bad (.inr (by omega)) h1.symm
theorem w_call {d i rt : Nat} {vs : List Value} {Q : rS → hm_Out → Prop} {X : RO} (hE : EEr wP C t s.1) (h : cr d i vs s Q) (h2 : ∀ s0 : rS, EE wP C t s0 → ∀ K, pcr K d i vs s0 (MQx wP C rt X)) (hQ : ∀ s1 out, Q s1 out → RF s1.1 ∧ out ≠ none) : cr d i vs s (fun s1 out => Q s1 out ∧ ∃ ob z t1, out = some ob ∧ rtv rt z ob ∧ X = some (some (z, t1)) ∧ EEr wP C t1 s1.1) := by
  refine cr_mono (cr_mod (P := wP) (C := C) (t := t) h (fun K => h2 _ (mrg_EE hE wv_R) K)) ?_
  rintro s1 out ⟨hq, s3, hc, hm, g, g1, g2⟩
  obtain ⟨q1, q2⟩ := hQ s1 out hq
  rcases hm with ⟨ob, z, t1, m1, m2, m3, m4⟩ | ⟨m1, _⟩
  · exact ⟨hq, ob, z, t1, m1, m2, m3, EE_bk m4 g1 g2 q1 wv_R⟩
  · exact absurd m1 q2
theorem e_call {d i rt : Nat} {vs : List Value} {Q : rS → hm_Out → Prop} {X : RO} (hE : EEr eP D e s.1) (h : cr d i vs s Q) (h2 : ∀ s0 : rS, EE eP D e s0 → ∀ K, pcr K d i vs s0 (MQx eP D rt X)) (hQ : ∀ s1 out, Q s1 out → RF s1.1 ∧ out ≠ none) : cr d i vs s (fun s1 out => Q s1 out ∧ ∃ ob z e1, out = some ob ∧ rtv rt z ob ∧ X = some (some (z, e1)) ∧ EEr eP D e1 s1.1) := by
  refine cr_mono (cr_mod (P := eP) (C := D) (t := e) h (fun K => h2 _ (mrg_EE hE ev_R) K)) ?_
  rintro s1 out ⟨hq, s3, hc, hm, g, g1, g2⟩
  obtain ⟨q1, q2⟩ := hQ s1 out hq
  rcases hm with ⟨ob, z, t1, m1, m2, m3, m4⟩ | ⟨m1, _⟩
  · exact ⟨hq, ob, z, t1, m1, m2, m3, EE_bk m4 g1 g2 q1 ev_R⟩
  · exact absurd m1 q2
theorem ok_W {k j : Nat} (h : relW k j = true) : okk wP k := by
  intro q
  have q : 115 ≤ k ∧ k < 131 := q
  unfold relW at h
  rw [if_neg (by omega), if_neg (by omega), if_neg (by omega), if_neg (by omega), if_neg (by omega), if_pos (by omega)] at h
  simp only [Bool.or_eq_true, beq_iff_eq] at h
  omega
theorem ok_E {k j : Nat} (h : relE k j = true) : okk eP k := by
  intro q
  have q : 186 ≤ k ∧ k < 195 := q
  unfold relE at h
  rw [if_neg (by omega), if_neg (by omega), if_neg (by omega), if_pos (by omega)] at h
  simp only [Bool.and_eq_true, bne_iff_ne, ne_eq, decide_eq_true_eq] at h
  omega
/-- the tables as they are -/
def tnw (C : Nat) (r : tab) : tab := fun k j => r (ph wP C k) j
def tne (D : Nat) (r : tab) : tab := fun k j => r (ph eP D k) j
theorem tnw_E (hC : C = 99 ∨ C = 115) (hR : RF r) (hv : r 142 0 = (C : Int)) : EEr wP C (tnw C r) r := ⟨hC, hR, hv, fun k j w => ⟨ok_W w, fun _ => rfl⟩, trivial⟩
theorem tne_E (hD : D = 177 ∨ D = 186) (hR : RF r) (hv : r 170 17 = (D : Int)) : EEr eP D (tne D r) r := ⟨hD, hR, hv, fun k j w => ⟨ok_E w, fun _ => rfl⟩, trivial⟩
theorem w_p2 (hC : C = 99 ∨ C = 115) {k j : Nat} (h : relW k j = true) (h1 : k ≠ 97) (h2 : k ≠ 98) : ph wP C k = 96 ∨ 99 ≤ ph wP C k ∧ ph wP C k < 170 := by
  have u := w_k h
  show (if 99 ≤ k ∧ k < 99 + 16 then C + (k - 99) else k) = 96 ∨ 99 ≤ (if 99 ≤ k ∧ k < 99 + 16 then C + (k - 99) else k) ∧ (if 99 ≤ k ∧ k < 99 + 16 then C + (k - 99) else k) < 170
  split <;> omega
end LAW6
