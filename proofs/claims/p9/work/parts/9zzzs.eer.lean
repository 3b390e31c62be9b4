/-! Tables that agree where things have slots. -/
section EERX
variable {P : EPx} {C k j : Nat} {t r r2 : tab} {s s2 s3 : rS}
def inR (k j : Nat) : Prop := ∃ t n, tb_TG k = some (t, n) ∧ j < n
theorem rl_le : ∀ i, i < 123 → (tb_rl[i]?.getD []).length ≤ (tb_tl[i]?.map (fun p => p.2)).getD 0 := by decide
theorem rc_R {v : Nat} (h : tb_rc k j = some v) : inR k j := by
  unfold tb_rc at h
  by_cases e1 : k < 96
  · rw [if_pos e1] at h
    cases h
  rw [if_neg e1] at h
  by_cases e2 : k < 219
  · rw [if_pos e2] at h
    have lt : j < (tb_rl[k - 96]?.getD []).length := by
      rcases Nat.lt_or_ge j (tb_rl[k - 96]?.getD []).length with q | q
      · exact q
      · rw [List.getElem?_eq_none q] at h
        cases h
    have le := rl_le (k - 96) (by omega)
    have e : tb_TG k = tb_tl[k - 96]? := by
      unfold tb_TG
      rw [if_neg e1, if_pos (by omega)]
    cases w : tb_tl[k - 96]? with
    | none =>
      rw [w] at le
      have le : (tb_rl[k - 96]?.getD []).length ≤ 0 := le
      omega
    | some p =>
      rw [w] at le
      have le : (tb_rl[k - 96]?.getD []).length ≤ p.2 := le
      exact ⟨p.1, p.2, by rw [e, w], by omega⟩
  rw [if_neg e2] at h
  by_cases e3 : k = 219
  · rw [if_pos e3] at h
    by_cases e : j < 700
    · exact ⟨_, 700, by rw [e3]; rfl, e⟩
    · rw [if_neg e] at h
      cases h
  rw [if_neg e3] at h
  by_cases e4 : k = 920
  · rw [if_pos e4] at h
    by_cases e : j < 700
    · exact ⟨_, 700, by rw [e4]; rfl, e⟩
    · rw [if_neg e] at h
      cases h
  rw [if_neg e4] at h
  by_cases e5 : k = 1621
  · rw [if_pos e5] at h
    by_cases e : j < 8
    · exact ⟨_, 8, by rw [e5]; rfl, e⟩
    · rw [if_neg e] at h
      cases h
  · rw [if_neg e5] at h
    cases h
theorem rv_inj {ty : FieldType} {a b : Int} (ha : rg ty a) (hb : rg ty b) (h : rv (rk1 ty) a = rv (rk1 ty) b) : a = b := by
  have i : -2147483648 ≤ a ∧ a ≤ 2147483647 → -2147483648 ≤ b ∧ b ≤ 2147483647 → Value.int (Int32.ofInt a) = Value.int (Int32.ofInt b) → a = b := fun h1 h2 e => by
    have e : Int32.ofInt a = Int32.ofInt b := by
      injection e
    have e2 := congrArg Int32.toInt e
    rw [i32_to h1.1 h1.2, i32_to h2.1 h2.2] at e2
    exact e2
  have l : -9223372036854775808 ≤ a ∧ a ≤ 9223372036854775807 → -9223372036854775808 ≤ b ∧ b ≤ 9223372036854775807 → Value.long (Int64.ofInt a) = Value.long (Int64.ofInt b) → a = b := fun h1 h2 e => by
    have e : Int64.ofInt a = Int64.ofInt b := by
      injection e
    have e2 := congrArg Int64.toInt e
    rw [i64_to h1.1 h1.2, i64_to h2.1 h2.2] at e2
    exact e2
  have o : -1 ≤ a → -1 ≤ b → (if a < 0 then Value.null else .ref a.toNat) = (if b < 0 then Value.null else .ref b.toNat) → a = b := fun h1 h2 e => by
    by_cases c1 : a < 0 <;> by_cases c2 : b < 0
    · omega
    · rw [if_pos c1, if_neg c2] at e
      cases e
    · rw [if_neg c1, if_pos c2] at e
      cases e
    · rw [if_neg c1, if_neg c2] at e
      have e : a.toNat = b.toNat := by
        injection e
      omega
  cases ty
  all_goals first
    | exact i ha hb h
    | exact l ha hb h
    | exact o ha hb h
    | exact i (by have q : 0 ≤ a ∧ a ≤ 1 := ha; omega) (by have q : 0 ≤ b ∧ b ≤ 1 := hb; omega) h
    | exact i (by have q : -128 ≤ a ∧ a ≤ 127 := ha; omega) (by have q : -128 ≤ b ∧ b ≤ 127 := hb; omega) h
theorem rP_eq {g : hm_G} (h : rP g r) (h2 : rP g r2) (hR : inR k j) : r k j = r2 k j := by
  obtain ⟨y, n, ht, hj⟩ := hR
  have a1 := Rp_sl h ht hj
  have a2 := Rp_sl h2 ht hj
  have b1 := Rp_rg h ht hj
  have b2 := Rp_rg h2 ht hj
  rw [a1] at a2
  have e := Option.some.inj a2
  have hk : rkd tb_ty y j = rk1 (rty tb_ty y j) := by cases y <;> rfl
  rw [hk] at e
  exact rv_inj b1 b2 e
/-- a model's table, where things have slots -/
def EEr (P : EPx) (C : Nat) (t r : tab) : Prop := (C = P.1 ∨ C = P.1 + P.2.1) ∧ RF r ∧ r P.2.2.2.1 P.2.2.2.2.1 = (C : Int) ∧ (∀ k j, P.2.2.1 k j = true → okk P k ∧ (inR (ph P C k) j → r (ph P C k) j = t k j)) ∧ P.2.2.2.2.2.1 t
noncomputable def mrg (P : EPx) (C : Nat) (t r : tab) : tab := fun q j => @dite Int (¬ inR q j ∧ ∃ k, P.2.2.1 k j = true ∧ okk P k ∧ ph P C k = q) (Classical.propDecidable _) (fun h => t h.2.choose j) (fun _ => r q j)
theorem mrg_in (h : inR k j) : mrg P C t r k j = r k j := dif_neg (fun w => w.1 h)
theorem mrg_EE (h : EEr P C t r) (hv : inR P.2.2.2.1 P.2.2.2.2.1) {c : Nat × Nat} : EE P C t (mrg P C t r, c) := by
  obtain ⟨h1, h2, h3, h4, h5⟩ := h
  refine ⟨h1, fun k j v w => (mrg_in (rc_R w)).trans (h2 k j v w), (mrg_in hv).trans h3, fun k j w => ⟨(h4 k j w).1, ?_⟩, h5⟩
  show mrg P C t r (ph P C k) j = t k j
  by_cases e : inR (ph P C k) j
  · exact (mrg_in e).trans ((h4 k j w).2 e)
  · have q : ¬ inR (ph P C k) j ∧ ∃ k2, P.2.2.1 k2 j = true ∧ okk P k2 ∧ ph P C k2 = ph P C k := ⟨e, k, w, (h4 k j w).1, rfl⟩
    have u := q.2.choose_spec
    unfold mrg
    rw [dif_pos q, ph_inj h1 u.2.1 (h4 k j w).1 u.2.2]
theorem mrg_rP {g : hm_G} (h : rP g r) : rP g (mrg P C t r) := ⟨fun k y n ht => ⟨(h.1 k y n ht).1, fun j hj => by rw [mrg_in ⟨y, n, ht, hj⟩]; exact (h.1 k y n ht).2 j hj⟩, h.2⟩
/-- a contract and a model -/
theorem cr_mod {d i : Nat} {vs : List Value} {Q Q2 : rS → hm_Out → Prop} (h : cr d i vs s Q) (h2 : ∀ K, pcr K d i vs (mrg P C t s.1, s.2) Q2) : cr d i vs s (fun s2 out => Q s2 out ∧ ∃ s3 : rS, s3.2 = s2.2 ∧ Q2 s3 out ∧ ∃ g, rP g s2.1 ∧ rP g s3.1) := cr_pcr h (fun K g gf out hg hc hr => h2 K g gf out (mrg_rP hg) hc hr)
/-- behind a call -/
theorem EE_bk {g : hm_G} (h : EE P C t s3) (h2 : rP g s2.1) (h3 : rP g s3.1) (hR : RF s2.1) (hv : inR P.2.2.2.1 P.2.2.2.2.1) : EEr P C t s2.1 := ⟨h.1, hR, (rP_eq h2 h3 hv).trans h.2.2.1, fun k j w => ⟨(h.2.2.2.1 k j w).1, fun q => (rP_eq h2 h3 q).trans (h.2.2.2.1 k j w).2⟩, h.2.2.2.2⟩
theorem EEr_fr (h : EEr P C t r) (hR : RF r2) (hv : r2 P.2.2.2.1 P.2.2.2.2.1 = r P.2.2.2.1 P.2.2.2.2.1) (hf : ∀ k j, P.2.2.1 k j = true → r2 (ph P C k) j = r (ph P C k) j) : EEr P C t r2 := ⟨h.1, hR, hv.trans h.2.2.1, fun k j w => ⟨(h.2.2.2.1 k j w).1, fun q => (hf k j w).trans ((h.2.2.2.1 k j w).2 q)⟩, h.2.2.2.2⟩
theorem w_k (h : relW k j = true) : 96 ≤ k ∧ k < 170 := by
  refine Classical.byContradiction fun q => ?_
  unfold relW at h
  rw [if_neg (by omega), if_neg (by omega), if_neg (by omega), if_neg (by omega), if_neg (by omega)] at h
  by_cases e : k < 154
  · rw [if_pos e] at h
    simp only [Bool.or_eq_true, beq_iff_eq] at h
    omega
  · rw [if_neg e, if_neg (by omega)] at h
    cases h
theorem w_p (hC : C = 99 ∨ C = 115) (h : relW k j = true) : 96 ≤ ph wP C k ∧ ph wP C k < 170 := by
  have u := w_k h
  show 96 ≤ (if 99 ≤ k ∧ k < 99 + 16 then C + (k - 99) else k) ∧ (if 99 ≤ k ∧ k < 99 + 16 then C + (k - 99) else k) < 170
  split <;> omega
theorem e_k (h : relE k j = true) : 170 ≤ k ∧ k ≤ 1630 := by
  refine Classical.byContradiction fun q => ?_
  unfold relE at h
  rw [if_neg (by omega), if_neg (by omega)] at h
  by_cases e : k < 186
  · rw [if_pos e] at h
    simp only [Bool.or_eq_true, beq_iff_eq, decide_eq_true_eq] at h
    omega
  · rw [if_neg e, if_neg (by omega)] at h
    simp only [Bool.and_eq_true, bne_iff_ne, ne_eq, decide_eq_true_eq] at h
    omega
theorem e_p (hC : C = 177 ∨ C = 186) (h : relE k j = true) : 170 ≤ ph eP C k := by
  have u := e_k h
  show 170 ≤ (if 177 ≤ k ∧ k < 177 + 9 then C + (k - 177) else k)
  split <;> omega
theorem wv_R : inR wP.2.2.2.1 wP.2.2.2.2.1 := ⟨_, _, rfl, by decide⟩
theorem ev_R : inR eP.2.2.2.1 eP.2.2.2.2.1 := ⟨_, _, rfl, by decide⟩
end EERX
