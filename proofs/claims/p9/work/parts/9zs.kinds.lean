/-! Turns, kind by kind: a child is asked, the part is done, or it waits. -/
section KINDS
variable {s s2 : tab} {c : Cxx} {p : Nat}
def PREx (p : Nat) (l : wrl) : Prop := ∀ w ∈ l, 114 < w.1 ∧ w.1 ≠ 143 ∧ w.1 ≠ 144 ∧ w.1 ≠ 152 ∧ w.1 ≠ 153 ∧ (w.1 = 146 → w.2.1 = p)
theorem PR_nil : PREx p [] := fun w hw => by cases hw
theorem PR_app {a b : wrl} (ha : PREx p a) (hb : PREx p b) : PREx p (a ++ b) := fun w hw => (List.mem_append.mp hw).elim (ha w) (hb w)
theorem PR_one {k j : Nat} {v : Int} (h : 114 < k ∧ k ≠ 143 ∧ k ≠ 144 ∧ k ≠ 152 ∧ k ≠ 153 ∧ (k = 146 → j = p)) : PREx p [(k, j, v)] := fun w hw => by
  simp only [List.mem_cons, List.not_mem_nil, or_false] at hw
  rw [hw]
  exact h
theorem PR_as {g x v : Int} : PREx p (asx s g x v) := by
  unfold asx
  split
  · exact PR_one (by omega)
  · split
    · exact PR_one (by omega)
    · exact PR_nil
theorem PR_pz {f : Int} : ∀ (n : Nat) (i x : Int), PREx p (pwx s f n i x)
  | 0, _, _ => PR_nil
  | n + 1, i, x => PR_app PR_as (PR_pz n (i + 1) (flx s x))
theorem PR_tw {q v : Int} : PREx p (twx s q v).1 := by
  unfold twx
  split
  · intro w hw
    rcases List.mem_cons.mp hw with e | e
    · rw [e]
      show 114 < 145 ∧ (145 : Nat) ≠ 143 ∧ (145 : Nat) ≠ 144 ∧ (145 : Nat) ≠ 152 ∧ (145 : Nat) ≠ 153 ∧ ((145 : Nat) = 146 → _)
      omega
    · split at e
      · simp only [List.mem_cons, List.not_mem_nil, or_false] at e
        rw [e]
        show 114 < 142 ∧ (142 : Nat) ≠ 143 ∧ (142 : Nat) ≠ 144 ∧ (142 : Nat) ≠ 152 ∧ (142 : Nat) ≠ 153 ∧ ((142 : Nat) = 146 → _)
        omega
      · cases e
  · exact PR_nil
theorem shp {x : Nat × Nat × Int} {l : wrl} {y : wrl × List Int} : cax ([x], []) (cax (l, []) y) = cax (x :: l, []) y := rfl
/-- what the part remembers once it has asked -/
def PHc (s : tab) (p : Nat) (u cur : Int) : Prop := (s 100 p = 408 → ∃ i, cur = nth s i (s 101 p)) ∧ (s 100 p = 404 → u ≤ s 103 p → cur = nth s (u - 1).toNat (s 102 p)) ∧ (s 100 p = 404 → s 103 p < u → ∃ i, cur = nth s i (s 114 (s 101 p).toNat))
theorem PHc_n {u cur : Int} (h1 : s 100 p ≠ 408) (h2 : s 100 p ≠ 404) : PHc s p u cur := ⟨fun k => absurd k h1, fun k => absurd k h2, fun k => absurd k h2⟩
def KAx (s : tab) (c : Cxx) (p : Nat) (W : wrl × List Int) : Prop := ∃ pre y, PREx p pre ∧ (CHx (EF s) c p y ∧ CHb s p y) ∧ W = cax ((144, p, trn s p + 1) :: pre, []) (awx s y p) ∧ ∀ t : tab, t 146 p = s 146 p → PHc s p (trn s p + 1) (apw pre t 146 p)
def KTx (s : tab) (p : Nat) (W : wrl × List Int) : Prop := ∃ pre v u, PREx p pre ∧ W = cax ((144, p, u) :: pre, []) (twx s p v)
/-- it has a value, and is ready to take it -/
def KSx (s : tab) (p : Nat) (W : wrl × List Int) : Prop := ∃ pre u, PREx p pre ∧ s 100 p = 407 ∧ W = ((144, p, u) :: pre, pux (p : Int))
def KWx (s : tab) (p : Nat) (W : wrl × List Int) : Prop := (s 100 p = 406 ∧ W = ([(144, p, trn s p + 1), (152, (s 101 p).toNat, (p : Int))], []) ∨ s 100 p = 407 ∧ W = ([(144, p, trn s p + 1), (153, (s 101 p).toNat, (p : Int))], [])) ∧ 0 ≤ s 101 p
theorem ka {y : Int} (h : CHx (EF s) c p y) (hb : CHl s p y) (h1 : s 100 p ≠ 408) (h2 : s 100 p ≠ 404) : KAx s c p (cax ([(144, p, trn s p + 1)], []) (awx s y p)) := ⟨[], y, PR_nil, ⟨h, .inl hb⟩, rfl, fun _ _ => PHc_n h1 h2⟩
theorem kt {v : Int} : KTx s p (cax ([(144, p, trn s p + 1)], []) (twx s p v)) := ⟨[], v, _, PR_nil, rfl⟩
theorem ko {y v : Int} (h : 0 ≤ y → CHx (EF s) c p y ∧ CHl s p y) (h1 : s 100 p ≠ 408) (h2 : s 100 p ≠ 404) : KAx s c p (cax ([(144, p, trn s p + 1)], []) (otx s y p v)) ∨ KTx s p (cax ([(144, p, trn s p + 1)], []) (otx s y p v)) := by
  unfold otx
  split
  · rename_i q
    exact .inl (ka (h q).1 (h q).2 h1 h2)
  · exact .inr kt
theorem k_all (h : EF s c p) (hph : PHx s p) (hn : ¬ CMx s p) (hk : s 100 p ≠ 312) : KAx s c p (Wrx s p) ∨ KTx s p (Wrx s p) ∨ KWx s p (Wrx s p) ∨ KSx s p (Wrx s p) := by
  obtain ⟨hp, _, _, k1, k2, k3, k4, k5, k6, k7, k8, k9, k10, k11, k12, k13⟩ := EF_k h
  have h0 := trn_0 (s := s) (p := p)
  by_cases hf : FGx s p
  · refine .inr (.inl ⟨(147, p, 0) :: asx s (s 102 p) (vax s (s 103 p)) (s 145 p), 0, s 144 p, PR_app (a := [(147, p, 0)]) (PR_one (by omega)) PR_as, ?_⟩)
    unfold Wrx
    rw [if_pos hf]
    rfl
  unfold Wrx
  rw [if_neg hf]
  by_cases e1 : s 100 p = 2 ∨ s 100 p = 400 ∨ s 100 p = 401 ∨ s 100 p = 402 ∨ s 100 p = 403
  · rw [if_pos e1]
    have h1 : s 100 p ≠ 408 := by omega
    have h2 : s 100 p ≠ 404 := by omega
    unfold ewx
    split
    · exact .inr (.inl kt)
    · split
      · exact .inr (.inl kt)
      · split
        · rename_i e
          split
          · refine .inl (ka ?_ ?_ h1 h2)
            · split
              · exact (k4 e).1
              · exact (k4 e).2
            · rw [CH_403 e]
              split
              · exact .inl rfl
              · exact .inr rfl
          · exact .inr (.inl kt)
        · split
          · refine .inl (ka ?_ ((CH_a (by omega)).mpr rfl) h1 h2)
            rcases e1 with e | e | e | e | e
            · exact absurd e (by assumption)
            · exact absurd e (by assumption)
            · exact (k2 e).2
            · exact k3 e
            · exact absurd e (by assumption)
          · exact .inr (.inl kt)
  · rw [if_neg e1]
    by_cases e2 : s 100 p = 404
    · rw [if_pos e2]
      obtain ⟨a1, a2, a3, a4, a5, a6⟩ := k5 e2
      have h8 : s 100 p ≠ 408 := by rw [e2]; decide
      have er : bdx s (s 101 p) = s 114 (s 101 p).toNat := if_pos ⟨a1.1, a1.2.1⟩
      unfold cwx
      by_cases u1 : trn s p < s 103 p
      · rw [if_pos u1]
        have hcur : (if trn s p = 0 then s 102 p else flx s (s 146 p)) = nth s (trn s p).toNat (s 102 p) := by
          by_cases u0 : trn s p = 0
          · rw [if_pos u0, u0]
            rfl
          · rw [if_neg u0, hph.2.1 e2 (by omega) (by omega), ← nth_s]
            congr 1
            omega
        rw [hcur, shp]
        refine .inl ⟨_, _, PR_one (by omega), ⟨a3 _ (by omega), .inl ((CH_404 e2).mpr ⟨_, by omega, rfl⟩)⟩, rfl, fun t _ => ⟨fun k => absurd k h8, fun _ _ => ?_, fun _ k => absurd k (by omega)⟩⟩
        rw [apw_cons, apw_nil, show trn s p + 1 - 1 = trn s p by omega]
        exact up_self
      · rw [if_neg u1]
        by_cases u2 : trn s p = s 103 p
        · rw [if_pos u2, er, shp]
          refine .inl ⟨_, _, PR_app (PR_pz _ _ _) (PR_one (by omega)), ⟨a6 0 a5, .inr ⟨e2, 0, rfl⟩⟩, rfl, fun t _ => ⟨fun k => absurd k h8, fun _ k => absurd k (by omega), fun _ _ => ⟨0, ?_⟩⟩⟩
          rw [apw_app, apw_cons, apw_nil]
          exact up_self
        · rw [if_neg u2]
          obtain ⟨i, hi⟩ := hph.2.2 e2 (by omega)
          rw [hi, ← nth_s]
          unfold otx
          split
          · rename_i q
            rw [shp]
            refine .inl ⟨_, _, PR_one (by omega), ⟨a6 _ q, .inr ⟨e2, _, rfl⟩⟩, rfl, fun t _ => ⟨fun k => absurd k h8, fun _ k => absurd k (by omega), fun _ _ => ⟨i + 1, ?_⟩⟩⟩
            rw [apw_cons, apw_nil]
            exact up_self
          · rw [shp]
            exact .inr (.inl ⟨_, _, _, PR_one (by omega), rfl⟩)
    · rw [if_neg e2]
      by_cases e3 : s 100 p = 405 ∨ s 100 p = 406 ∨ s 100 p = 407
      · rw [if_pos e3]
        have h8 : s 100 p ≠ 408 := by omega
        unfold mwx
        by_cases e : s 100 p = 406
        · rw [if_pos e]
          obtain ⟨⟨a1, a2, a3⟩, a4⟩ := k7 e
          by_cases u : trn s p = 0
          · rw [if_pos u]
            exact .inl (ka a4 ((CH_a (.inr (.inr e))).mpr rfl) h8 e2)
          · rw [if_neg u]
            have h9 : 8 ≤ s 101 p := Int.not_lt.mp fun q => hn ⟨q, .inl ⟨e, u⟩⟩
            unfold swx
            rw [if_neg (by omega), if_pos h9]
            split
            · rw [shp]
              refine .inr (.inl ⟨_, _, _, fun w hw => ?_, rfl⟩)
              simp only [List.mem_cons, List.not_mem_nil, or_false] at hw
              rcases hw with z | z <;> rw [z] <;> unfold qou
              · show 114 < 162 + 2 * (s 101 p - 8).toNat + 1 ∧ _
                omega
              · show 114 < 162 + 2 * (s 101 p - 8).toNat ∧ _
                omega
            · exact .inr (.inr (.inl ⟨.inl ⟨e, rfl⟩, a1⟩))
        · rw [if_neg e]
          by_cases u : sgu s p (trn s p) = 0
          · rw [if_pos u]
            have hq : ¬ s 103 p = -1 := fun q => by
              unfold sgu at u
              rw [q, if_pos (by decide)] at u
              omega
            rcases e3 with k | k | k
            · have w := (k6 k).2.2.elim (fun q => absurd q hq) id
              exact .inl (ka w ((CH_405 k).mpr (.inr ⟨rfl, w.1⟩)) h8 e2)
            · exact absurd k e
            · have w := (k8 k).2.2.elim (fun q => absurd q hq) id
              exact .inl (ka w ((CH_407 k).mpr ⟨rfl, w.1⟩) h8 e2)
          · rw [if_neg u]
            by_cases k : s 100 p = 407
            · rw [if_pos k]
              obtain ⟨⟨a1, a2, a3⟩, _⟩ := k8 k
              have h9 : 8 ≤ s 101 p := Int.not_lt.mp fun q => hn ⟨q, .inr ⟨k, u, FG_n hf k⟩⟩
              unfold rwx
              rw [if_neg (by omega), if_pos h9]
              split
              · refine .inr (.inr (.inr ⟨[(qin (s 101 p), 1, (s (qin (s 101 p)) 1 + 1) % 40), (qin (s 101 p), 2, s (qin (s 101 p)) 2 - 1), (145, p, s (qin (s 101 p) + 1) (s (qin (s 101 p)) 1).toNat), (147, p, 1)], trn s p + 1, fun w hw => ?_, k, by unfold cax; dsimp only [List.cons_append, List.nil_append]⟩))
                simp only [List.mem_cons, List.not_mem_nil, or_false] at hw
                rcases hw with z | z | z | z <;> rw [z]
                · unfold qin
                  show 114 < 154 + 2 * (s 101 p - 8).toNat ∧ _
                  omega
                · unfold qin
                  show 114 < 154 + 2 * (s 101 p - 8).toNat ∧ _
                  omega
                · show 114 < 145 ∧ _
                  omega
                · show 114 < 147 ∧ _
                  omega
              · exact .inr (.inr (.inl ⟨.inr ⟨k, rfl⟩, a1⟩))
            · rw [if_neg k]
              have k5' : s 100 p = 405 := by
                rcases e3 with q | q | q
                · exact q
                · exact absurd q e
                · exact absurd q k
              obtain ⟨_, a4, _⟩ := k6 k5'
              by_cases v : sgu s p (trn s p) = 1
              · rw [if_pos v]
                exact .inl (ka a4 ((CH_405 k5').mpr (.inl rfl)) h8 e2)
              · rw [if_neg v, shp]
                exact .inr (.inl ⟨_, _, _, PR_as, rfl⟩)
      · rw [if_neg e3]
        unfold gwx
        by_cases g1 : s 100 p = 308
        · rw [if_pos g1]
          obtain ⟨a1, a2, a3⟩ := k10 g1
          have h8 : s 100 p ≠ 408 := by omega
          split
          · exact .inl (ka a1 ((CH_308 g1).mpr (.inl rfl)) h8 e2)
          · refine (ko ?_ h8 e2).imp id .inl
            split
            · split
              · exact fun _ => ⟨a2, (CH_308 g1).mpr (.inr (.inl rfl))⟩
              · rcases a3 with a3 | a3
                · exact fun q => absurd q (by rw [a3]; decide)
                · exact fun _ => ⟨a3, (CH_308 g1).mpr (.inr (.inr ⟨rfl, a3.1⟩))⟩
            · exact fun q => absurd q (by decide)
        · rw [if_neg g1]
          by_cases g2 : s 100 p = 310
          · rw [if_pos g2]
            obtain ⟨a1, a2⟩ := k11 g2
            have h8 : s 100 p ≠ 408 := by omega
            split
            · exact .inl (ka a1 ((CH_310 g2).mpr (.inl rfl)) h8 e2)
            · refine (ko ?_ h8 e2).imp id .inl
              split
              · exact fun _ => ⟨a2, (CH_310 g2).mpr (.inr rfl)⟩
              · exact fun q => absurd q (by decide)
          · rw [if_neg g2]
            by_cases g3 : s 100 p = 311
            · rw [if_pos g3]
              have h8 : s 100 p ≠ 408 := by omega
              refine (ko ?_ h8 e2).imp id .inl
              split
              · exact fun _ => ⟨k12 g3, (CH_311 g3).mpr rfl⟩
              · exact fun q => absurd q (by decide)
            · rw [if_neg g3]
              by_cases g4 : s 100 p = 408
              · rw [if_pos g4]
                obtain ⟨a1, a2⟩ := k9 g4
                obtain ⟨i, hi⟩ : ∃ i, (if trn s p = 0 then s 101 p else flx s (s 146 p)) = nth s i (s 101 p) := by
                  by_cases u0 : trn s p = 0
                  · rw [if_pos u0]
                    exact ⟨0, rfl⟩
                  · rw [if_neg u0]
                    obtain ⟨i, hi⟩ := hph.1 g4 (by omega)
                    rw [hi, ← nth_s]
                    exact ⟨_, rfl⟩
                rw [hi]
                unfold otx
                split
                · rename_i q
                  rw [shp]
                  refine .inl ⟨_, _, PR_one (by omega), ⟨a2 i q, .inl ((CH_408 g4).mpr ⟨⟨i, rfl⟩, q⟩)⟩, rfl, fun t _ => ⟨fun _ => ⟨i, ?_⟩, fun k => absurd k e2, fun k => absurd k e2⟩⟩
                  rw [apw_cons, apw_nil]
                  exact up_self
                · rw [shp]
                  exact .inr (.inl ⟨_, _, _, PR_one (by omega), rfl⟩)
              · rw [if_neg g4, if_neg hk]
                exact .inr (.inl kt)
end KINDS
