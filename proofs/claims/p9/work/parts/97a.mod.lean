/-! Models: what methods do to the slots that matter. -/
abbrev RO : Type := Option (Option (Int × tab))
abbrev MRq : Type := Nat → List Int → tab → RO
def bo (x : RO) (k : Int → tab → RO) : RO := match x with
  | none => none
  | some none => some none
  | some (some v) => k v.1 v.2
theorem bo_inv {x : RO} {k : Int → tab → RO} {v : Option (Int × tab)} (h : bo x k = some v) : (x = some none ∧ v = none) ∨ ∃ z t, x = some (some (z, t)) ∧ k z t = some v := by
  cases x with
  | none => cases h
  | some y =>
    cases y with
    | none => exact .inl ⟨rfl, (Option.some.inj h).symm⟩
    | some w => exact .inr ⟨w.1, w.2, rfl, h⟩
theorem bo_s {k : Int → tab → RO} {z : Int} {t : tab} : bo (some (some (z, t))) k = k z t := rfl
theorem bo_n {k : Int → tab → RO} : bo (some none) k = some none := rfl
def rle (a b : MRq) : Prop := ∀ i xs t v, a i xs t = some v → b i xs t = some v
/-- what asks its recursor finitely often -/
def Kn (F : MRq → RO) : Prop := (∀ a b, rle a b → ∀ v, F a = some v → F b = some v) ∧ ∀ (c : Nat → MRq) (L : MRq), (∀ f g, f ≤ g → rle (c f) (c g)) → (∀ i xs t v, L i xs t = some v → ∃ f, c f i xs t = some v) → ∀ v, F L = some v → ∃ f, F (c f) = some v
theorem Kn_c {x : RO} : Kn (fun _ => x) := ⟨fun _ _ _ _ h => h, fun _ _ _ _ _ h => ⟨0, h⟩⟩
theorem Kn_r {i : Nat} {xs : List Int} {t : tab} : Kn (fun rc => rc i xs t) := ⟨fun _ _ h v e => h i xs t v e, fun _ _ _ h v e => h i xs t v e⟩
theorem Kn_if {c : Prop} [Decidable c] {F G : MRq → RO} (hF : Kn F) (hG : Kn G) : Kn (fun rc => if c then F rc else G rc) := by
  by_cases h : c
  · simp only [if_pos h]
    exact hF
  · simp only [if_neg h]
    exact hG
theorem Kn_bo {F : MRq → RO} {k : MRq → Int → tab → RO} (hF : Kn F) (hk : ∀ z t, Kn (fun rc => k rc z t)) : Kn (fun rc => bo (F rc) (k rc)) := by
  refine ⟨fun a b h v e => ?_, fun c L hc hL v e => ?_⟩
  · rcases bo_inv e with ⟨e1, rfl⟩ | ⟨z, t, e1, e2⟩
    · show bo (F b) (k b) = _
      rw [hF.1 a b h _ e1]
      rfl
    · show bo (F b) (k b) = _
      rw [hF.1 a b h _ e1]
      exact (hk z t).1 a b h v e2
  · rcases bo_inv e with ⟨e1, rfl⟩ | ⟨z, t, e1, e2⟩
    · obtain ⟨f, hf⟩ := hF.2 c L hc hL _ e1
      exact ⟨f, by show bo (F (c f)) _ = _; rw [hf]; rfl⟩
    · obtain ⟨f, hf⟩ := hF.2 c L hc hL _ e1
      obtain ⟨g, hg⟩ := (hk z t).2 c L hc hL v e2
      refine ⟨max f g, ?_⟩
      show bo (F (c (max f g))) (k (c (max f g))) = _
      rw [hF.1 _ _ (hc f (max f g) (Nat.le_max_left _ _)) _ hf]
      exact (hk z t).1 _ _ (hc g (max f g) (Nat.le_max_right _ _)) v hg
def it (B : MRq → MRq) : Nat → MRq
  | 0 => fun _ _ _ => none
  | f + 1 => B (it B f)
noncomputable def lim (B : MRq → MRq) : MRq := fun i xs t => @dite RO (∃ v f, it B f i xs t = some v) (Classical.propDecidable _) (fun h => some (Classical.choose h)) (fun _ => none)
section LIMX
variable {B : MRq → MRq} (hB : ∀ i xs t, Kn (fun rc => B rc i xs t))
theorem it_up (hB : ∀ i xs t, Kn (fun rc => B rc i xs t)) : ∀ f, rle (it B f) (it B (f + 1))
  | 0 => fun _ _ _ _ h => by cases h
  | f + 1 => fun i xs t v h => (hB i xs t).1 _ _ (it_up hB f) v h
theorem it_le (hB : ∀ i xs t, Kn (fun rc => B rc i xs t)) (f g : Nat) (h : f ≤ g) : rle (it B f) (it B g) := by
  induction h with
  | refl => exact fun _ _ _ _ e => e
  | step _ ih => exact fun i xs t v e => it_up hB _ i xs t v (ih i xs t v e)
theorem lim_ex {i : Nat} {xs : List Int} {t : tab} {v : Option (Int × tab)} (h : lim B i xs t = some v) : ∃ f, it B f i xs t = some v := by
  unfold lim at h
  by_cases e : ∃ v f, it B f i xs t = some v
  · rw [dif_pos e] at h
    have := Classical.choose_spec e
    rw [Option.some.inj h] at this
    exact this
  · rw [dif_neg e] at h
    cases h
theorem lim_of (hB : ∀ i xs t, Kn (fun rc => B rc i xs t)) {f i : Nat} {xs : List Int} {t : tab} {v : Option (Int × tab)} (h : it B f i xs t = some v) : lim B i xs t = some v := by
  have e : ∃ v f, it B f i xs t = some v := ⟨v, f, h⟩
  have h1 : lim B i xs t = some (Classical.choose e) := dif_pos e
  obtain ⟨g, hg⟩ := Classical.choose_spec e
  have a := it_le hB f (max f g) (Nat.le_max_left _ _) i xs t v h
  have b := it_le hB g (max f g) (Nat.le_max_right _ _) i xs t _ hg
  rw [h1, ← b, a]
theorem lim_eq (hB : ∀ i xs t, Kn (fun rc => B rc i xs t)) (i : Nat) (xs : List Int) (t : tab) : lim B i xs t = B (lim B) i xs t := by
  have h1 : ∀ v, lim B i xs t = some v → B (lim B) i xs t = some v := fun v h => by
    obtain ⟨f, hf⟩ := lim_ex h
    cases f with
    | zero => cases hf
    | succ f => exact (hB i xs t).1 _ _ (fun i xs t v e => lim_of hB e) v hf
  have h2 : ∀ v, B (lim B) i xs t = some v → lim B i xs t = some v := fun v h => by
    obtain ⟨f, hf⟩ := (hB i xs t).2 (it B) (lim B) (it_le hB) (fun i xs t v e => lim_ex e) v h
    exact lim_of hB (f := f + 1) hf
  cases e : B (lim B) i xs t with
  | some v => exact h2 v e
  | none =>
    cases e2 : lim B i xs t with
    | none => rfl
    | some v => rw [h1 v e2] at e; cases e
end LIMX
/-! Tables that hold a model's. -/
abbrev EPx : Type := Nat × Nat × (Nat → Nat → Bool) × Nat × Nat × (tab → Prop) × (rS → Prop)
/-- the thing that an abstract thing stands for -/
def ph (P : EPx) (C k : Nat) : Nat := if P.1 ≤ k ∧ k < P.1 + P.2.1 then C + (k - P.1) else k
def okk (P : EPx) (k : Nat) : Prop := ¬ (P.1 + P.2.1 ≤ k ∧ k < P.1 + P.2.1 + P.2.1)
def EE (P : EPx) (C : Nat) (t : tab) (s : rS) : Prop := (C = P.1 ∨ C = P.1 + P.2.1) ∧ RF s.1 ∧ s.1 P.2.2.2.1 P.2.2.2.2.1 = (C : Int) ∧ (∀ k j, P.2.2.1 k j = true → okk P k ∧ s.1 (ph P C k) j = t k j) ∧ P.2.2.2.2.2.1 t
theorem ph_inj {P : EPx} {C k k2 : Nat} (hC : C = P.1 ∨ C = P.1 + P.2.1) (h : okk P k) (h2 : okk P k2) (e : ph P C k = ph P C k2) : k = k2 := by
  unfold ph at e
  unfold okk at h h2
  split at e <;> split at e <;> omega
section EES
variable {P : EPx} {C k q j : Nat} {t : tab} {s : rS} {z : Int} {c : Nat × Nat}
theorem EE_get (h : EE P C t s) (hp : ph P C k = q) (hr : P.2.2.1 k j = true) : s.1 q j = t k j := by
  rw [← hp]
  exact (h.2.2.2.1 k j hr).2
theorem EE_put (h : EE P C t s) (hn : tb_rc q j = none) (hp : ph P C k = q) (hr : P.2.2.1 k j = true) (hv : ¬ (q = P.2.2.2.1 ∧ j = P.2.2.2.2.1)) (hi : P.2.2.2.2.2.1 t → P.2.2.2.2.2.1 (up2 t k j z)) : EE P C (up2 t k j z) (up2 s.1 q j z, c) := by
  refine ⟨h.1, RF_up h.2.1 hn, (if_neg (fun e => hv ⟨e.1.symm, e.2.symm⟩)).trans h.2.2.1, fun k2 j2 h2 => ⟨(h.2.2.2.1 k2 j2 h2).1, ?_⟩, hi h.2.2.2.2⟩
  by_cases e : k2 = k ∧ j2 = j
  · obtain ⟨rfl, rfl⟩ := e
    rw [hp]
    show up2 s.1 q j2 z q j2 = _
    rw [up_self, up_self]
  · show up2 s.1 q j z (ph P C k2) j2 = (if k2 = k ∧ j2 = j then z else t k2 j2)
    rw [if_neg e, show up2 s.1 q j z (ph P C k2) j2 = s.1 (ph P C k2) j2 from if_neg (fun e2 => e ⟨ph_inj h.1 (h.2.2.2.1 k2 j2 h2).1 (h.2.2.2.1 k j hr).1 (e2.1.trans hp.symm), e2.2⟩)]
    exact (h.2.2.2.1 k2 j2 h2).2
theorem EE_no (h : EE P C t s) (hn : tb_rc q j = none) (hp : ph P C k = q) (hk : okk P k) (hr : P.2.2.1 k j = false) (hv : ¬ (q = P.2.2.2.1 ∧ j = P.2.2.2.2.1)) : EE P C t (up2 s.1 q j z, c) := by
  refine ⟨h.1, RF_up h.2.1 hn, (if_neg (fun e => hv ⟨e.1.symm, e.2.symm⟩)).trans h.2.2.1, fun k2 j2 h2 => ⟨(h.2.2.2.1 k2 j2 h2).1, ?_⟩, h.2.2.2.2⟩
  show up2 s.1 q j z (ph P C k2) j2 = t k2 j2
  rw [show up2 s.1 q j z (ph P C k2) j2 = s.1 (ph P C k2) j2 from if_neg (fun e2 => by
    have e3 := ph_inj h.1 (h.2.2.2.1 k2 j2 h2).1 hk (e2.1.trans hp.symm)
    rw [e3, e2.2, hr] at h2
    cases h2)]
  exact (h.2.2.2.1 k2 j2 h2).2
theorem EE_cell (h : EE P C t s) : EE P C t (s.1, c) := h
end EES
/-! Longs and ints exactly. -/
def lo (a b : Int) : Int := (Int64.ofInt a ||| Int64.ofInt b).toInt
def la (a b : Int) : Int := (Int64.ofInt a &&& Int64.ofInt b).toInt
def lpl (a b : Int) : Int := (Int64.ofInt a + Int64.ofInt b).toInt
def lmi (a b : Int) : Int := (Int64.ofInt a - Int64.ofInt b).toInt
def lmu (a b : Int) : Int := (Int64.ofInt a * Int64.ofInt b).toInt
def lsl (a b : Int) : Int := (Int64.ofInt a <<< ((Int32.ofInt b).toInt64 &&& 63)).toInt
def l2x (a : Int) : Int := (Int64.ofInt a).toInt32.toInt
def ipl (a b : Int) : Int := (Int32.ofInt a + Int32.ofInt b).toInt
def imi (a b : Int) : Int := (Int32.ofInt a - Int32.ofInt b).toInt
def imu (a b : Int) : Int := (Int32.ofInt a * Int32.ofInt b).toInt
def ian (a b : Int) : Int := (Int32.ofInt a &&& Int32.ofInt b).toInt
def ior (a b : Int) : Int := (Int32.ofInt a ||| Int32.ofInt b).toInt
def ixo (a b : Int) : Int := (Int32.ofInt a ^^^ Int32.ofInt b).toInt
def isl (a b : Int) : Int := (Int32.ofInt a <<< (Int32.ofInt b &&& 31)).toInt
def isr (a b : Int) : Int := (Int32.ofInt a >>> (Int32.ofInt b &&& 31)).toInt
def iur (a b : Int) : Int := ((Int32.ofInt a).toUInt32 >>> ((Int32.ofInt b).toUInt32 &&& Int32.toUInt32 31)).toInt32.toInt
def lc (a b : Int) : Int := if a < b then -1 else if a = b then 0 else 1
def mnx (a b : Int) : Int := if b < a then b else a
def mxx (a b : Int) : Int := if a < b then b else a
theorem lc_eq {a b : Int} : lc a b = 0 ↔ a = b := by unfold lc; split <;> (try split) <;> omega
theorem lc_ne {a b : Int} : lc a b ≠ 0 ↔ a ≠ b := by unfold lc; split <;> (try split) <;> omega
theorem lc_lt {a b : Int} : lc a b < 0 ↔ a < b := by unfold lc; split <;> (try split) <;> omega
theorem lc_ge {a b : Int} : 0 ≤ lc a b ↔ b ≤ a := by unfold lc; split <;> (try split) <;> omega
theorem lc_gt {a b : Int} : 0 < lc a b ↔ b < a := by unfold lc; split <;> (try split) <;> omega
theorem lc_le {a b : Int} : lc a b ≤ 0 ↔ a ≤ b := by unfold lc; split <;> (try split) <;> omega
theorem lc_i32 {a b : Int} : i32 (lc a b) := by unfold lc i32; split <;> (try split) <;> omega
theorem i64_in (x : Int64) : i64 x.toInt := ⟨x.le_toInt, Int.le_of_lt_add_one x.toInt_lt⟩
theorem i32_in (x : Int32) : i32 x.toInt := ⟨x.le_toInt, Int.le_of_lt_add_one x.toInt_lt⟩
theorem i64_32 {a : Int} (h : i32 a) : i64 a := by unfold i32 at h; unfold i64; omega
theorem i32_n {n : Int} (h : decide (-2147483648 ≤ n ∧ n ≤ 2147483647) = true) : i32 n := by unfold i32; exact of_decide_eq_true h
theorem i64_n {n : Int} (h : decide (-9223372036854775808 ≤ n ∧ n ≤ 9223372036854775807) = true) : i64 n := by unfold i64; exact of_decide_eq_true h
theorem i32_z {n : Int} (h : 0 ≤ n ∧ n ≤ 1) : i32 n := by unfold i32; omega
theorem i32_b {n : Int} (h : -128 ≤ n ∧ n ≤ 127) : i32 n := by unfold i32; omega
theorem mn_i64 {a b : Int} (h : i64 a) (h2 : i64 b) : i64 (mnx a b) := by unfold mnx; split <;> assumption
theorem mn_i32 {a b : Int} (h : i32 a) (h2 : i32 b) : i32 (mnx a b) := by unfold mnx; split <;> assumption
theorem mx_i32 {a b : Int} (h : i32 a) (h2 : i32 b) : i32 (mxx a b) := by unfold mxx; split <;> assumption
theorem okk_n {P : EPx} {k : Nat} (h : decide (¬ (P.1 + P.2.1 ≤ k ∧ k < P.1 + P.2.1 + P.2.1)) = true) : okk P k := by unfold okk; exact of_decide_eq_true h
/-! How a modelled method ends. -/
def rtv (rt : Nat) (z : Int) (ob : Option Value) : Prop := match rt with
  | 0 => ob = none ∧ z = 0
  | 1 => ob = some (vi z) ∧ i32 z
  | 2 => ob = some (vl z) ∧ i64 z
  | 3 => ob = some (vi z) ∧ 0 ≤ z ∧ z ≤ 1
  | 5 => ob = some (vi z) ∧ 0 ≤ z ∧ z ≤ 2147483647
  | _ => z = 0 ∧ ∃ w : Int, ob = some (vi w) ∧ i32 w
def MQx (P : EPx) (C rt : Nat) (x : RO) : rS → hm_Out → Prop := fun s2 out => (∃ ob z t, out = some ob ∧ rtv rt z ob ∧ x = some (some (z, t)) ∧ EE P C t s2) ∨ out = none ∧ x = some none ∧ P.2.2.2.2.2.2 s2
def nokey (k : Int) : List (Int × Int) → Prop
  | [] => True
  | q :: l => q.1 ≠ k ∧ nokey k l
theorem ls_no {dflt k : Int} : ∀ l : List (Int × Int), nokey k l → Jvm.Op.lookupswitch.offset l dflt k = dflt
  | [], _ => rfl
  | (a, o) :: r, h => by
    show (if a = k then o else Jvm.Op.lookupswitch.offset r dflt k) = dflt
    rw [if_neg h.1]
    exact ls_no r h.2
section PRM
variable {P : EPx} {C : Nat} {M : hm_M} {N K pc row k k2 ci fi q d n rt r2 len : Nat} {lv : List (Nat × Value)} {st rest args : List Value} {s : rS} {v w : Value} {i : Instr} {x y : Int32} {Q Q2 : rS → hm_Out → Prop} {ty : FieldType} {a b z : Int} {t : tab} {X A B : RO} {KX : Int → tab → RO}
theorem mq_t {c : Prop} [Decidable c] (h : c) (kk : pr N K d M pc lv st s (MQx P C rt A)) : pr N K d M pc lv st s (MQx P C rt (if c then A else B)) := by rw [if_pos h]; exact kk
theorem mq_f {c : Prop} [Decidable c] (h : ¬ c) (kk : pr N K d M pc lv st s (MQx P C rt B)) : pr N K d M pc lv st s (MQx P C rt (if c then A else B)) := by rw [if_neg h]; exact kk
theorem pr_gE (hE : EE P C t s) (ho : (hm_Mi M)[pc]? = some (some (.getfield k, 3, 9, row))) (hx : (hm_Tf tb_T)[row]? = some (hm_Mo M, k, ci, fi)) (ht : tb_TG q = some (.inr ci, n)) (hj : fi < n) (hp : ph P C k2 = q) (hr : P.2.2.1 k2 fi = true) (hv : rv (rk1 (tb_ty ci fi)) (t k2 fi) = v) (kk : rg (tb_ty ci fi) (t k2 fi) → pr N K d M (pc + 3) lv (v :: st) s Q) : pr N K d M pc lv (.ref q :: st) s Q := pr_get ho hx ht hj (by rw [EE_get hE hp hr]; exact hv) (fun h => kk (by rw [EE_get hE hp hr] at h; exact h))
theorem pr_pE {cq : vw_C} (hE : EE P C t s) (ho : (hm_Mi M)[pc]? = some (some (.putfield k, 3, 9, row))) (hx : (hm_Tf tb_T)[row]? = some (hm_Mo M, k, ci, fi)) (hcl : (hm_Tcl tb_T)[ci]? = some cq) (hfin : (cq.2.1 fi).2.2.2 = false) (hn : hm_Tro tb_T ≤ q) (ht : tb_TG q = some (.inr ci, n)) (hj : fi < n) (hv : rv (rk1 (tb_ty ci fi)) z = v) (hz : rg (tb_ty ci fi) z) (hfit : hm_fit (tb_ty ci fi) v = true) (hc : tb_rc q fi = none) (hp : ph P C k2 = q) (hr : P.2.2.1 k2 fi = true) (h9 : ¬ (q = P.2.2.2.1 ∧ fi = P.2.2.2.2.1)) (hi : P.2.2.2.2.2.1 t → P.2.2.2.2.2.1 (up2 t k2 fi z)) (kk : ∀ s2 : rS, EE P C (up2 t k2 fi z) s2 → pr N K d M (pc + 3) lv st s2 Q) : pr N K d M pc lv (v :: .ref q :: st) s Q := pr_put ho hx hcl hfin hn ht hj hv hz hfit (kk _ (EE_put hE hc hp hr h9 hi))
theorem pr_pN {cq : vw_C} (hE : EE P C t s) (ho : (hm_Mi M)[pc]? = some (some (.putfield k, 3, 9, row))) (hx : (hm_Tf tb_T)[row]? = some (hm_Mo M, k, ci, fi)) (hcl : (hm_Tcl tb_T)[ci]? = some cq) (hfin : (cq.2.1 fi).2.2.2 = false) (hn : hm_Tro tb_T ≤ q) (ht : tb_TG q = some (.inr ci, n)) (hj : fi < n) (hv : rv (rk1 (tb_ty ci fi)) z = v) (hz : rg (tb_ty ci fi) z) (hfit : hm_fit (tb_ty ci fi) v = true) (hc : tb_rc q fi = none) (hp : ph P C k2 = q) (hk : okk P k2) (hr : P.2.2.1 k2 fi = false) (h9 : ¬ (q = P.2.2.2.1 ∧ fi = P.2.2.2.2.1)) (kk : ∀ s2 : rS, EE P C t s2 → pr N K d M (pc + 3) lv st s2 Q) : pr N K d M pc lv (v :: .ref q :: st) s Q := pr_put ho hx hcl hfin hn ht hj hv hz hfit (kk _ (EE_no hE hc hp hk hr h9))
theorem pr_aE (hE : EE P C t s) (ho : (hm_Mi M)[pc]? = some (some (i, 1, 11, 0))) (ht : tb_TG q = some (.inl ty, n)) (hty : hm_aty i ty = true) (ha : i32 a) (hn : n ≤ 2147483647) (hp : ph P C k2 = q) (hr : P.2.2.1 k2 a.toNat = true) (hv : rv (rk1 ty) (t k2 a.toNat) = v) (kk : 0 ≤ a → a < n → rg ty (t k2 a.toNat) → pr N K d M (pc + 1) lv (v :: st) s Q) : pr N K d M pc lv (vi a :: .ref q :: st) s Q := pr_ald ho ht hty ha hn (by rw [EE_get hE hp hr]; exact hv) (fun h1 h2 h => kk h1 h2 (by rw [EE_get hE hp hr] at h; exact h))
theorem pr_sE (hE : EE P C t s) (ho : (hm_Mi M)[pc]? = some (some (i, 1, 11, 1))) (hro : hm_Tro tb_T ≤ q) (ht : tb_TG q = some (.inl ty, n)) (hty : hm_aty2 i ty = true) (ha : i32 a) (hn : n ≤ 2147483647) (hw : hm_stv i v = some (rv (rk1 ty) z)) (hz : rg ty z) (hc : tb_rc q a.toNat = none) (hp : ph P C k2 = q) (hr : P.2.2.1 k2 a.toNat = true) (h9 : ¬ (q = P.2.2.2.1 ∧ a.toNat = P.2.2.2.2.1)) (hi : P.2.2.2.2.2.1 t → P.2.2.2.2.2.1 (up2 t k2 a.toNat z)) (kk : 0 ≤ a → a < n → ∀ s2 : rS, EE P C (up2 t k2 a.toNat z) s2 → pr N K d M (pc + 1) lv st s2 Q) : pr N K d M pc lv (v :: vi a :: .ref q :: st) s Q := pr_ast ho hro ht hty ha hn hw hz (fun h1 h2 => kk h1 h2 _ (EE_put hE hc hp hr h9 hi))
theorem pr_sN (hE : EE P C t s) (ho : (hm_Mi M)[pc]? = some (some (i, 1, 11, 1))) (hro : hm_Tro tb_T ≤ q) (ht : tb_TG q = some (.inl ty, n)) (hty : hm_aty2 i ty = true) (ha : i32 a) (hn : n ≤ 2147483647) (hw : hm_stv i v = some (rv (rk1 ty) z)) (hz : rg ty z) (hc : tb_rc q a.toNat = none) (hp : ph P C k2 = q) (hk : okk P k2) (hr : P.2.2.1 k2 a.toNat = false) (h9 : ¬ (q = P.2.2.2.1 ∧ a.toNat = P.2.2.2.2.1)) (kk : 0 ≤ a → a < n → ∀ s2 : rS, EE P C t s2 → pr N K d M (pc + 1) lv st s2 Q) : pr N K d M pc lv (v :: vi a :: .ref q :: st) s Q := pr_ast ho hro ht hty ha hn hw hz (fun h1 h2 => kk h1 h2 _ (EE_no hE hc hp hk hr h9))
/-- instructions on two ints, exactly -/
theorem pr_i2 {f : Int32 → Int32 → Int32} (ho : (hm_Mi M)[pc]? = some (some (i, 1, 3, row))) (hf : hm_b2 i = some f) (kk : pr N K d M (pc + 1) lv (vi (f (Int32.ofInt a) (Int32.ofInt b)).toInt :: st) s Q) : pr N K d M pc lv (vi b :: vi a :: st) s Q := by
  refine pr_go (fun call g => ?_) kk
  rw [hs_of ho]
  show hm_pu 1 g (hm_gA i pc lv _) = _
  simp [hm_gA, hf, hm_pu]
theorem pr_l2 {f : Int64 → Int64 → Int64} (ho : (hm_Mi M)[pc]? = some (some (i, 1, 4, row))) (hf : hm_l2 i = some f) (kk : pr N K d M (pc + 1) lv (vl (f (Int64.ofInt a) (Int64.ofInt b)).toInt :: st) s Q) : pr N K d M pc lv (vl b :: vl a :: st) s Q := by
  refine pr_go (fun call g => ?_) kk
  rw [hs_of ho]
  show hm_pu 1 g (hm_gJ i pc lv _) = _
  simp [hm_gJ, hf, hm_pu]
theorem pr_lshl (ho : (hm_Mi M)[pc]? = some (some (.lshl, 1, 6, row))) (kk : pr N K d M (pc + 1) lv (vl (lsl a b) :: st) s Q) : pr N K d M pc lv (vi b :: vl a :: st) s Q := by
  refine pr_go (fun call g => ?_) kk
  rw [hs_of ho]
  show some (Sum.inl (pc + 1, lv, Value.long (Int64.ofInt a <<< ((Int32.ofInt b).toInt64 &&& 63)) :: st, g)) = _
  show _ = some (Sum.inl (pc + 1, lv, Value.long (Int64.ofInt (Int64.ofInt a <<< ((Int32.ofInt b).toInt64 &&& 63)).toInt) :: st, g))
  rw [Int64.ofInt_toInt]
theorem pr_lcmp (ho : (hm_Mi M)[pc]? = some (some (.lcmp, 1, 6, row))) (ha : i64 a) (hb : i64 b) (kk : pr N K d M (pc + 1) lv (vi (lc a b) :: st) s Q) : pr N K d M pc lv (vl b :: vl a :: st) s Q := by
  have e : Int64.ofInt a < Int64.ofInt b ↔ a < b := by rw [Int64.lt_iff_toInt_lt, i64_to ha.1 ha.2, i64_to hb.1 hb.2]
  have e2 : Int64.ofInt a = Int64.ofInt b ↔ a = b := by rw [← Int64.toInt_inj, i64_to ha.1 ha.2, i64_to hb.1 hb.2]
  have e3 : Int64.ofInt b < Int64.ofInt a ↔ b < a := by rw [Int64.lt_iff_toInt_lt, i64_to ha.1 ha.2, i64_to hb.1 hb.2]
  have key : lg_cmp (Int64.ofInt a) (Int64.ofInt b) = Int32.ofInt (lc a b) := by
    unfold lg_cmp lc
    by_cases h1 : a < b
    · simp [e, e2, e3, h1, show ¬ b < a by omega, show ¬ a = b by omega] <;> rfl
    · by_cases h2 : a = b
      · simp [e, e2, e3, h1, h2] <;> rfl
      · simp [e, e2, e3, h1, h2, show b < a by omega] <;> rfl
  refine pr_go (fun call g => ?_) kk
  rw [hs_of ho]
  show some (Sum.inl (pc + 1, lv, Value.int (lg_cmp (Int64.ofInt a) (Int64.ofInt b)) :: st, g)) = _
  rw [key]
theorem pr_i2l (ho : (hm_Mi M)[pc]? = some (some (.i2l, 1, 5, row))) (ha : i32 a) (kk : pr N K d M (pc + 1) lv (vl a :: st) s Q) : pr N K d M pc lv (vi a :: st) s Q := by
  refine pr_go (fun call g => ?_) kk
  rw [hs_of ho]
  show some (Sum.inl (pc + 1, lv, Value.long (Int32.ofInt a).toInt64 :: st, g)) = _
  have : (Int32.ofInt a).toInt64 = Int64.ofInt a := by
    apply Int64.toInt_inj.mp
    rw [Int32.toInt_toInt64, i32_to ha.1 ha.2, i64_to (by have := ha.1; omega) (by have := ha.2; omega)]
  rw [this]
theorem pr_l2i (ho : (hm_Mi M)[pc]? = some (some (.l2i, 1, 5, row))) (kk : pr N K d M (pc + 1) lv (vi (Int64.ofInt a).toInt32.toInt :: st) s Q) : pr N K d M pc lv (vl a :: st) s Q := by
  refine pr_go (fun call g => ?_) kk
  rw [hs_of ho]
  show some (Sum.inl (pc + 1, lv, Value.int (Int64.ofInt a).toInt32 :: st, g)) = some (Sum.inl (pc + 1, lv, Value.int (Int32.ofInt (Int64.ofInt a).toInt32.toInt) :: st, g))
  rw [Int32.ofInt_toInt]
theorem pr_reti (ho : (hm_Mi M)[pc]? = some (some (.ireturn, 1, 16, row))) (hr : hm_Mr M = some .int) (hq : Q s (some (some (.int x)))) : pr N K d M pc lv [.int x] s Q := pr_end (fun call g => by
  rw [hs_of ho]
  show hm_dE M (.ireturn, 1, 16, row) [.int x] g = _
  simp [hm_dE, hm_ret, hr, narrow]) hq
theorem pr_retz (ho : (hm_Mi M)[pc]? = some (some (.ireturn, 1, 16, row))) (hr : hm_Mr M = some .boolean) (hz : 0 ≤ z ∧ z ≤ 1) (hq : Q s (some (some (vi z)))) : pr N K d M pc lv [vi z] s Q := pr_end (fun call g => by
  rw [hs_of ho]
  show hm_dE M (.ireturn, 1, 16, row) [vi z] g = _
  have h : z = 0 ∨ z = 1 := by omega
  have hn : narrow .boolean (vi z) = vi z := by rcases h with rfl | rfl <;> rfl
  have hn2 : narrow .boolean (.int (Int32.ofInt z)) = .int (Int32.ofInt z) := hn
  simp [hm_dE, hm_ret, hr, hn2]) hq
theorem pr_min {ix : Nat} (ho : (hm_Mi M)[pc]? = some (some (.invokestatic ix, 3, 15, row))) (hx : (hm_Tl tb_T)[row]? = some (hm_Mo M, ix, 2)) (ha : i32 a) (hb : i32 b) (hs : (st.map fun v => v.category).sum ≤ 8) (kk : pr N K d M (pc + 3) lv (vi (mnx a b) :: st) s Q) : pr N K d M pc lv (vi b :: vi a :: st) s Q := by
  refine pr_go (fun call g => ?_) kk
  rw [hs_of ho]
  show hm_dL tb_T M (.invokestatic ix, 3, 15, row) pc lv (vi b :: vi a :: st) g = _
  have h1 : (Int32.ofInt b < Int32.ofInt a) ↔ b < a := by rw [Int32.lt_iff_toInt_lt, i32_to ha.1 ha.2, i32_to hb.1 hb.2]
  have h2 : ((vi b :: vi a :: st).map fun v => v.category).sum ≤ 16 := by
    show 1 + (1 + (st.map fun v => v.category).sum) ≤ 16
    omega
  unfold hm_dL mnx
  rw [hx]
  dsimp only
  rw [if_pos ⟨rfl, rfl, rfl, h2⟩]
  show some (Sum.inl (pc + 3, lv, Value.int (if Int32.ofInt b < Int32.ofInt a then Int32.ofInt b else Int32.ofInt a) :: st, g)) = _
  by_cases e : b < a
  · rw [if_pos (h1.mpr e), if_pos e]
  · rw [if_neg (fun q => e (h1.mp q)), if_neg e]
theorem pr_max {ix : Nat} (ho : (hm_Mi M)[pc]? = some (some (.invokestatic ix, 3, 15, row))) (hx : (hm_Tl tb_T)[row]? = some (hm_Mo M, ix, 1)) (ha : i32 a) (hb : i32 b) (hs : (st.map fun v => v.category).sum ≤ 8) (kk : pr N K d M (pc + 3) lv (vi (mxx a b) :: st) s Q) : pr N K d M pc lv (vi b :: vi a :: st) s Q := by
  refine pr_go (fun call g => ?_) kk
  rw [hs_of ho]
  show hm_dL tb_T M (.invokestatic ix, 3, 15, row) pc lv (vi b :: vi a :: st) g = _
  have h1 : (Int32.ofInt a < Int32.ofInt b) ↔ a < b := by rw [Int32.lt_iff_toInt_lt, i32_to ha.1 ha.2, i32_to hb.1 hb.2]
  have h2 : ((vi b :: vi a :: st).map fun v => v.category).sum ≤ 16 := by
    show 1 + (1 + (st.map fun v => v.category).sum) ≤ 16
    omega
  unfold hm_dL mxx
  rw [hx]
  dsimp only
  rw [if_pos ⟨rfl, rfl, rfl, h2⟩]
  show some (Sum.inl (pc + 3, lv, Value.int (if Int32.ofInt a < Int32.ofInt b then Int32.ofInt b else Int32.ofInt a) :: st, g)) = _
  by_cases e : a < b
  · rw [if_pos (h1.mpr e), if_pos e]
  · rw [if_neg (fun q => e (h1.mp q)), if_neg e]
theorem pr_minl {ix : Nat} (ho : (hm_Mi M)[pc]? = some (some (.invokestatic ix, 3, 15, row))) (hx : (hm_Tl tb_T)[row]? = some (hm_Mo M, ix, 3)) (ha : i64 a) (hb : i64 b) (hs : (st.map fun v => v.category).sum ≤ 8) (kk : pr N K d M (pc + 3) lv (vl (mnx a b) :: st) s Q) : pr N K d M pc lv (vl b :: vl a :: st) s Q := by
  refine pr_go (fun call g => ?_) kk
  rw [hs_of ho]
  show hm_dL tb_T M (.invokestatic ix, 3, 15, row) pc lv (vl b :: vl a :: st) g = _
  have h1 : (Int64.ofInt b < Int64.ofInt a) ↔ b < a := by rw [Int64.lt_iff_toInt_lt, i64_to ha.1 ha.2, i64_to hb.1 hb.2]
  have h2 : ((vl b :: vl a :: st).map fun v => v.category).sum ≤ 16 := by
    show 2 + (2 + (st.map fun v => v.category).sum) ≤ 16
    omega
  unfold hm_dL mnx
  rw [hx]
  dsimp only
  rw [if_pos ⟨rfl, rfl, rfl, h2⟩]
  show some (Sum.inl (pc + 3, lv, Value.long (if Int64.ofInt b < Int64.ofInt a then Int64.ofInt b else Int64.ofInt a) :: st, g)) = _
  by_cases e : b < a
  · rw [if_pos (h1.mpr e), if_pos e]
  · rw [if_neg (fun q => e (h1.mp q)), if_neg e]
theorem pr_alen (ho : (hm_Mi M)[pc]? = some (some (.arraylength, 1, 11, 2))) (ht : tb_TG q = some (.inl ty, n)) (kk : pr N K d M (pc + 1) lv (vi (n : Int) :: st) s Q) : pr N K d M pc lv (.ref q :: st) s Q := fun m hm g gf out hg hc hr => by
  obtain ⟨l, g1, g2⟩ := tg_arr (Rp_tg hg ht)
  subst g2
  obtain ⟨j, j1, j2⟩ := run_inl hr (hs_alen ho g1)
  rw [i32_ofNat] at j2
  exact kk j (by omega) g gf out hg hc j2
theorem pr_aldR {o : FieldType × List Value} (ho : (hm_Mi M)[pc]? = some (some (i, 1, 11, 0))) (hq : tb_RO q = some (.inl o)) (hty : hm_aty i o.1 = true) (h0 : 0 ≤ a) (h1 : a ≤ 2147483647) (hv : o.2[a.toNat]? = some v) (kk : pr N K d M (pc + 1) lv (v :: st) s Q) : pr N K d M pc lv (vi a :: .ref q :: st) s Q := fun m hm g gf out hg hc hr => by
  obtain ⟨j, j1, j2⟩ := run_inl hr (hs_ald ho (hg.2 q _ hq) hty (nn_i h0 h1) (by rw [i32_nat h0 h1]; exact hv))
  exact kk j (by omega) g gf out hg hc j2
theorem pr_LIM (ho : (hm_Mi M)[pc]? = some (some (.iaload, 1, 11, 0))) (h0 : 0 ≤ a) (h1 : a < 6) (kk : 0 ≤ LIM a.toNat ∧ LIM a.toNat ≤ 24 → pr N K d M (pc + 1) lv (vi (LIM a.toNat) :: st) s Q) : pr N K d M pc lv (vi a :: .ref 1 :: st) s Q := pr_aldR (q := 1) (o := (.int, [.int 24, .int 6, .int 8, .int 4, .int 4, .int 12])) ho rfl rfl h0 (by omega) (lim_get (by omega)) (kk ⟨LIM_nn _, LIM_le⟩)
theorem pr_lsw {dflt off : Int} {ps : Array (Int × Int)} {tt : Nat} (ho : (hm_Mi M)[pc]? = some (some (.lookupswitch dflt ps, len, 8, row))) (hs : (ps.toList.zip (ps.toList.drop 1)).all (fun (a, next) => a.1 < next.1) = true) (ha : i32 a) (he : Jvm.Op.lookupswitch.offset ps.toList dflt a = off) (ht : hm_tg pc off = some tt) (kk : pr N K d M tt lv st s Q) : pr N K d M pc lv (vi a :: st) s Q := by
  refine pr_go (fun call g => ?_) kk
  rw [hs_of ho]
  show (hm_gW (.lookupswitch dflt ps) pc lv (vi a :: st)).map (fun q => Sum.inl (q.1, q.2.1, q.2.2, g)) = _
  unfold hm_gW
  dsimp only
  rw [if_pos hs, i32_to ha.1 ha.2, he, ht]
  rfl
theorem pr_tsw {dflt lo2 hi off : Int} {offs : Array Int} {tt : Nat} (ho : (hm_Mi M)[pc]? = some (some (.tableswitch dflt lo2 hi offs, len, 8, row))) (ha : i32 a) (he : (if a < lo2 ∨ hi < a then some dflt else offs[(a - lo2).toNat]?) = some off) (ht : hm_tg pc off = some tt) (kk : pr N K d M tt lv st s Q) : pr N K d M pc lv (vi a :: st) s Q := by
  refine pr_go (fun call g => ?_) kk
  rw [hs_of ho]
  show (hm_gW (.tableswitch dflt lo2 hi offs) pc lv (vi a :: st)).map (fun q => Sum.inl (q.1, q.2.1, q.2.2, g)) = _
  unfold hm_gW
  dsimp only
  rw [i32_to ha.1 ha.2]
  by_cases e : a < lo2 ∨ hi < a
  · rw [if_pos e] at he ⊢
    cases he
    rw [ht]
    rfl
  · rw [if_neg e] at he ⊢
    rw [he]
    dsimp only
    rw [ht]
    rfl
theorem hs_call0b {G : hm_T} {g : hm_G} {call : Nat → List Value → hm_G → Option (hm_G × hm_Out)} {ix im na : Nat} (ho : (hm_Mi M)[pc]? = some (some (.invokestatic ix, 3, 14, row))) (hx : (hm_Tc G)[row]? = some (hm_Mo M, ix, 0, im, na, ci)) (ha : args.length = na) (hs : (rest.map fun v => v.category).sum ≤ 8) : hm_step G call M (pc, lv, args.reverse ++ rest, g) = hm_back M pc lv rest (call im args g) := by
  rw [hs_of ho]
  show hm_dC G call M _ pc lv _ g = _
  have hd : (args.reverse ++ rest).drop na = rest := by rw [List.drop_append_of_le_length (by simp [ha])]; simp [ha]
  have ht : ((args.reverse ++ rest).take na).reverse = args := by rw [List.take_append_of_le_length (by simp [ha]), List.take_of_length_le (by simp [ha]), List.reverse_reverse]
  have hal : na ≤ (args.reverse ++ rest).length := by simp [ha]
  unfold hm_dC
  rw [hx]
  simp only [hd, ht]
  rw [if_pos ⟨trivial, trivial, hal⟩, if_pos ⟨trivial, hs⟩]
theorem pr_call0 {ix im na : Nat} (ho : (hm_Mi M)[pc]? = some (some (.invokestatic ix, 3, 14, row))) (hx : (hm_Tc tb_T)[row]? = some (hm_Mo M, ix, 0, im, na, ci)) (ha : args.length = na) (hs : (rest.map fun v => v.category).sum ≤ 8) (hh : hm_Mh M = []) (he : pcr K d im args s fun s2 out => (∀ ob, out = some ob → pr N K d M (pc + 3) lv (ob.toList ++ rest) s2 Q) ∧ (out = none → Q s2 none)) : pr N K d M pc lv (args.reverse ++ rest) s Q := fun m hm g gf out hg hc hr => by
  have hst := hs_call0b (G := tb_T) (g := g) (call := hm_call tb_T tb_pg K d) (lv := lv) (rest := rest) ho hx ha hs
  cases hcl : hm_call tb_T tb_pg K d im args g with
  | none => rw [hcl] at hst; exact absurd (run_none hr hst) id
  | some r =>
    obtain ⟨g2, o2⟩ := r
    obtain ⟨s2, e2, e3, e4, e5⟩ := he g g2 o2 hg hc hcl
    rw [hcl] at hst
    cases o2 with
    | some ob =>
      obtain ⟨j, j1, j2⟩ := run_inl hr hst
      exact e4 ob rfl j (by omega) g2 gf out e2 e3 j2
    | none =>
      unfold hm_back at hst
      dsimp only at hst
      rw [hh] at hst
      have := run_inr hr hst
      cases this
      exact ⟨s2, e2, e3, e5 rfl⟩
/-- calls of modelled methods -/
theorem pr_m1 {ix im na : Nat} (ho : (hm_Mi M)[pc]? = some (some (.invokevirtual ix, 3, 14, row))) (hx : (hm_Tc tb_T)[row]? = some (hm_Mo M, ix, 1, im, na, ci)) (ha : args.length = na) (hb : tb_TG q = some (.inr ci, n)) (hs : (rest.map fun v => v.category).sum ≤ 8) (hh : hm_Mh M = []) (he : pcr K d im (.ref q :: args) s (MQx P C r2 X)) (kk : ∀ ob z t s2, rtv r2 z ob → EE P C t s2 → pr N K d M (pc + 3) lv (ob.toList ++ rest) s2 (MQx P C rt (KX z t))) : pr N K d M pc lv (args.reverse ++ .ref q :: rest) s (MQx P C rt (bo X KX)) := pr_call1 ho hx ha hb hs hh (pcr_mono he (by
  rintro s2 out (⟨ob, z, t, rfl, h1, rfl, h3⟩ | ⟨rfl, rfl, h9⟩)
  · exact ⟨fun ob2 e => by cases e; exact kk ob z t s2 h1 h3, fun e => by cases e⟩
  · exact ⟨fun ob2 e => (by cases e), fun _ => .inr ⟨rfl, rfl, h9⟩⟩))
theorem pr_m0 {ix im na : Nat} (ho : (hm_Mi M)[pc]? = some (some (.invokestatic ix, 3, 14, row))) (hx : (hm_Tc tb_T)[row]? = some (hm_Mo M, ix, 0, im, na, ci)) (ha : args.length = na) (hs : (rest.map fun v => v.category).sum ≤ 8) (hh : hm_Mh M = []) (he : pcr K d im args s (MQx P C r2 X)) (kk : ∀ ob z t s2, rtv r2 z ob → EE P C t s2 → pr N K d M (pc + 3) lv (ob.toList ++ rest) s2 (MQx P C rt (KX z t))) : pr N K d M pc lv (args.reverse ++ rest) s (MQx P C rt (bo X KX)) := pr_call0 ho hx ha hs hh (pcr_mono he (by
  rintro s2 out (⟨ob, z, t, rfl, h1, rfl, h3⟩ | ⟨rfl, rfl, h9⟩)
  · exact ⟨fun ob2 e => by cases e; exact kk ob z t s2 h1 h3, fun e => by cases e⟩
  · exact ⟨fun ob2 e => (by cases e), fun _ => .inr ⟨rfl, rfl, h9⟩⟩))
/-- calls of methods whose answer is known -/
theorem pr_s1 {ix im na : Nat} {t2 : tab} (ho : (hm_Mi M)[pc]? = some (some (.invokevirtual ix, 3, 14, row))) (hx : (hm_Tc tb_T)[row]? = some (hm_Mo M, ix, 1, im, na, ci)) (ha : args.length = na) (hb : tb_TG q = some (.inr ci, n)) (hs : (rest.map fun v => v.category).sum ≤ 8) (hh : hm_Mh M = []) (he : pcr K d im (.ref q :: args) s (MQx P C r2 X)) (hX : X = some (some (z, t2))) (kk : ∀ ob (s2 : rS), rtv r2 z ob → EE P C t2 s2 → pr N K d M (pc + 3) lv (ob.toList ++ rest) s2 Q) : pr N K d M pc lv (args.reverse ++ .ref q :: rest) s Q := pr_call1 ho hx ha hb hs hh (pcr_mono he (by
  rintro s2 out (⟨ob, z3, t3, rfl, h1, h2, h3⟩ | ⟨rfl, h2, h9⟩)
  · rw [hX] at h2
    cases h2
    exact ⟨fun ob2 e => by cases e; exact kk ob s2 h1 h3, fun e => by cases e⟩
  · rw [hX] at h2
    cases h2))
theorem pr_s0 {ix im na : Nat} {t2 : tab} (ho : (hm_Mi M)[pc]? = some (some (.invokestatic ix, 3, 14, row))) (hx : (hm_Tc tb_T)[row]? = some (hm_Mo M, ix, 0, im, na, ci)) (ha : args.length = na) (hs : (rest.map fun v => v.category).sum ≤ 8) (hh : hm_Mh M = []) (he : pcr K d im args s (MQx P C r2 X)) (hX : X = some (some (z, t2))) (kk : ∀ ob (s2 : rS), rtv r2 z ob → EE P C t2 s2 → pr N K d M (pc + 3) lv (ob.toList ++ rest) s2 Q) : pr N K d M pc lv (args.reverse ++ rest) s Q := pr_call0 ho hx ha hs hh (pcr_mono he (by
  rintro s2 out (⟨ob, z3, t3, rfl, h1, h2, h3⟩ | ⟨rfl, h2, h9⟩)
  · rw [hX] at h2
    cases h2
    exact ⟨fun ob2 e => by cases e; exact kk ob s2 h1 h3, fun e => by cases e⟩
  · rw [hX] at h2
    cases h2))
/-- a call that throws -/
theorem pr_c1 {ix im na : Nat} (ho : (hm_Mi M)[pc]? = some (some (.invokevirtual ix, 3, 14, row))) (hx : (hm_Tc tb_T)[row]? = some (hm_Mo M, ix, 1, im, na, ci)) (ha : args.length = na) (hb : tb_TG q = some (.inr ci, n)) (hs : (rest.map fun v => v.category).sum ≤ 8) (hh : hm_Mh M = []) (he : pcr K d im (.ref q :: args) s (MQx P C r2 X)) (hX : X = some none) : pr N K d M pc lv (args.reverse ++ .ref q :: rest) s (MQx P C rt (some none)) := pr_call1 ho hx ha hb hs hh (pcr_mono he (by
  rintro s2 out (⟨ob, z3, t3, rfl, h1, h2, h3⟩ | ⟨rfl, h2, h9⟩)
  · rw [hX] at h2
    cases h2
  · exact ⟨fun ob2 e => (by cases e), fun _ => .inr ⟨rfl, rfl, h9⟩⟩))
end PRM
theorem pcr0 {K i : Nat} {vs : List Value} {s : rS} {Q : rS → hm_Out → Prop} : pcr K 0 i vs s Q := fun g gf out _ _ hr => by
  unfold hm_call at hr
  cases hr
/-- what of our own slots matters -/
def relC (k j : Nat) : Bool := if k = 97 then j == 1 else if k = 99 then (j == 12 || j == 13) else if k = 105 then j == 3 else if k = 131 then (j == 3 || j == 6 || j == 7 || j == 8 || j == 9 || j == 13 || j == 14 || j == 15 || j == 16) else if k = 137 then (j == 5 || j == 6) else (k == 98 || k == 100 || k == 101 || k == 102 || k == 103 || k == 104 || k == 110 || k == 111 || k == 114 || k == 133 || k == 106 || k == 107 || k == 108 || k == 109 || k == 112 || k == 113 || k == 132 || k == 134 || k == 135 || k == 136 || k == 138 || k == 139 || k == 140 || k == 141)
def cP : EPx := (99, 16, relC, 131, 1, (fun _ => True), (fun _ => True))
/-- behind the reading of tokens: their places are no less than 0; a throw tells one -/
def cQ : EPx := (99, 16, relC, 131, 1, (fun t => ∀ j, 0 ≤ t 140 j), (fun s => 0 ≤ s.1 131 2 ∧ ∀ j, 0 ≤ s.1 140 j))
theorem iv_c {t : tab} {k j : Nat} {z : Int} (h : k ≠ 140) : cQ.2.2.2.2.2.1 t → cQ.2.2.2.2.2.1 (up2 t k j z) := fun q j2 => by
  rw [up_nk (Ne.symm h)]
  exact q j2
theorem i32_p {n : Int} (h : 0 ≤ n ∧ n ≤ 2147483647) : i32 n := by unfold i32; omega
/-! What our own small methods answer. -/
def atb (t : tab) (x : Int) : Int := if 0 ≤ x ∧ x < t 97 1 then ian (t 98 x.toNat) 255 else -1
def ltz (x : Int) : Int := if 97 ≤ x ∧ x ≤ 122 then 1 else 0
def dgz (x : Int) : Int := if 48 ≤ x ∧ x ≤ 57 then 1 else 0
def alz (x : Int) : Int := if 97 ≤ x ∧ x ≤ 122 ∨ 48 ≤ x ∧ x ≤ 57 then 1 else 0
def sgz (x : Int) : Int := if sg1 x = true then 1 else 0
def kkd (t : tab) : Int := if 0 ≤ t 137 5 ∧ t 137 5 ≤ 2000 then t 139 (t 137 5).toNat else 3
def plc (t : tab) : Int := if 0 ≤ t 137 5 ∧ t 137 5 ≤ 2000 then t 140 (t 137 5).toNat else 0
def vlu (t : tab) : Int := if 0 ≤ t 137 5 ∧ t 137 5 ≤ 2000 then t 141 (t 137 5).toNat else 0
def stp (t : tab) : tab := if 0 ≤ t 137 5 ∧ t 137 5 < 2000 ∧ t 139 (t 137 5).toNat ≠ 3 ∧ t 139 (t 137 5).toNat ≠ 4 then up2 t 137 5 (t 137 5 + 1) else t
def nkd (t : tab) (x : Int) : Int := if 0 ≤ x ∧ x < t 105 3 then t 107 x.toNat else -1
def nnm (t : tab) (x : Int) : Int := if 0 ≤ x ∧ x < t 105 3 then t 108 x.toNat else -1
/-- the last name w below m -/
def fdl (t : tab) (w : Int) : Nat → Int
  | 0 => -1
  | m + 1 => if t 106 m = w then (m : Int) else fdl t w m
def fdn (t : tab) (w f : Int) : Int := if mxx f 0 ≤ fdl t w (t 105 3).toNat then fdl t w (t 105 3).toNat else -1
def nad (t : tab) (w k n : Int) : tab := if t 105 3 < 58 then up2 (up2 (up2 (up2 t 106 (t 105 3).toNat w) 107 (t 105 3).toNat k) 108 (t 105 3).toNat n) 105 3 (t 105 3 + 1) else t
def ncu (t : tab) (x : Int) : tab := if 0 ≤ x ∧ x < t 105 3 then up2 t 105 3 x else t
def spm (t : tab) (r f n : Int) : tab := if 0 ≤ r ∧ r < 12 then up2 (up2 t 113 r.toNat f) 112 r.toNat n else t
def prm (t : tab) (x : Int) : Int := if 0 ≤ x ∧ x < 12 then t 112 x.toNat else 0
def lvl (x : Int) : Int := if x = 31868 then 1 else if x = 9766 then 2 else if x = 124 then 3 else if x = 94 then 4 else if x = 38 then 5 else if x = 15677 ∨ x = 8509 then 6 else if x = 60 ∨ x = 15421 ∨ x = 62 ∨ x = 15933 then 7 else if x = 15420 ∨ x = 15934 then 8 else if x = 43 ∨ x = 45 then 9 else if x = 42 ∨ x = 47 ∨ x = 37 then 10 else 0
def lin (t : tab) (x : Int) : Int := if nkd t x = 2 then nnm t x else ipl 8 (nnm t x)
def ccl (t : tab) : tab := up2 (up2 (up2 (up2 (up2 (up2 (up2 (up2 (ncu t 0) 109 0 0) 109 1 0) 109 2 0) 109 3 0) 109 4 0) 109 5 0) 99 12 0) 99 13 (-1)
/-- parts -/
def hsz (t : tab) (x : Int) : Int := if 0 ≤ x ∧ x < t 99 12 then 1 else 0
def cadz (t : tab) : Int := if t 99 12 < 2000 then t 99 12 else -1
def cad (t : tab) (k a b c : Int) : tab := if t 99 12 < 2000 then up2 (up2 (up2 (up2 (up2 (up2 t 100 (t 99 12).toNat k) 101 (t 99 12).toNat a) 102 (t 99 12).toNat b) 103 (t 99 12).toNat c) 104 (t 99 12).toNat (-1)) 99 12 (t 99 12 + 1) else t
def lnk (t : tab) (x y : Int) : tab := if 0 ≤ x ∧ x < t 99 12 then up2 t 104 x.toNat y else t
def sbi (t : tab) (x y : Int) : tab := if 0 ≤ x ∧ x < 24 then up2 t 110 x.toNat y else t
def ssi (t : tab) (x y : Int) : tab := if 0 ≤ x ∧ x < 6 then up2 t 111 x.toNat y else t
/-- code -/
def pt1 (t : tab) (v : Int) : tab := up2 (up2 t 178 (t 177 1).toNat v) 177 1 (ipl (t 177 1) 1)
def ptz (t : tab) : Int := imi (ipl (t 177 1) 1) 1
def pt2 (t : tab) (a b : Int) : tab := pt1 (pt1 t a) b
def prt (t : tab) : tab := up2 (pt1 t 0) 177 3 (ipl (t 177 3) 1)
def sto (t : tab) (w n : Int) : tab := pt2 t (if w ≠ 0 then 6 else 5) n
def sgo (t : tab) : Int := if imi (t 170 6) (t 170 5) ≠ 1 then ipl (imu 256 (t 171 ((ipl (t 170 5) 1).toNat))) (t 171 ((t 170 5).toNat)) else t 171 ((t 170 5).toNat)
def cst (t : tab) : tab := up2 (up2 (up2 (up2 (ccl t) 131 3 (-2)) 131 6 0) 131 13 (-1)) 131 14 0
