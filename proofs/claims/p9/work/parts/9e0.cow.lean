/-! Parts and code of the same text. -/
/-- parts; what is used; what is assigned to; what but one branch may do -/
abbrev Cxx : Type := (Nat → Prop) × (Nat → Prop) × (Nat → Prop) × (Nat → Prop)
def NCx (c d : Cxx) : Prop := (∀ x, ¬ (c.1 x ∧ d.1 x)) ∧ (∀ v, ¬ (c.2.2.1 v ∧ d.2.1 v)) ∧ (∀ v, ¬ (c.2.1 v ∧ d.2.2.1 v)) ∧ ∀ k, ¬ (c.2.2.2 k ∧ d.2.2.2 k)
def SBx (c d : Cxx) : Prop := (∀ x, c.1 x → d.1 x) ∧ (∀ v, c.2.1 v → d.2.1 v) ∧ (∀ v, c.2.2.1 v → d.2.2.1 v) ∧ ∀ k, c.2.2.2 k → d.2.2.2 k
def AUx (c : Cxx) : Prop := ∀ v, c.2.2.1 v → c.2.1 v
theorem SB_rf {c : Cxx} : SBx c c := ⟨fun _ q => q, fun _ q => q, fun _ q => q, fun _ q => q⟩
theorem SB_tr {c d e : Cxx} (h : SBx c d) (k : SBx d e) : SBx c e := ⟨fun x q => k.1 x (h.1 x q), fun x q => k.2.1 x (h.2.1 x q), fun x q => k.2.2.1 x (h.2.2.1 x q), fun x q => k.2.2.2 x (h.2.2.2 x q)⟩
/-- md n a b x f l k0 k1 q c: the parts from a to b with root x are an E (md 0), a STATEMENT (1), n E in a row (2), n STATEMENTS in a row (3), n branches (4), n STATEMENTS and the E of a fun (5), written from f to l -/
abbrev COt : Type := Nat → Nat → Nat → Nat → Int → Nat → Nat → Nat → Nat → Nat → Cxx → Prop
/-- routines: where their code begins, what they do, which are funs -/
abbrev Gmx : Type := (Nat → Int) × (Nat → Cxx) × (Nat → Prop)
/-- signs of two characters -/
def rsg (a : Int) : Int := if a < 256 then a else (a % 256) * 256 + a / 256
def CLk (s t : tab) (G : Gmx) (R : COt) (a x f l : Nat) (c : Cxx) : Prop :=
  ∃ r n m : Nat, s 101 x = (r : Int) ∧ r < 12 ∧ s 103 x = (n : Int) ∧ n ≤ 4 ∧ t 178 f = 0 ∧ R 2 n a x (s 102 x) (f + 1) m 0 0 0 c ∧ (∀ i, i < n → t 178 (m + 2 * i) = 5 ∧ t 178 (m + 2 * i + 1) = s 113 r + ((n - 1 - i : Nat) : Int)) ∧ t 178 (m + 2 * n) = 11 ∧ t 178 (m + 2 * n + 1) = G.1 r ∧ l = m + 2 * n + 2 ∧ c.2.2.2 (24 + r) ∧ SBx (G.2.1 r) c ∧ 0 ≤ s 113 r ∧ s 113 r + (n : Int) ≤ 24 ∧ (∀ i, i < n → c.2.2.1 ((s 113 r).toNat + i)) ∧ ∀ z, (G.2.1 r).1 z → z < a
def CEk (s t : tab) (G : Gmx) (R : COt) (a x f l : Nat) (c : Cxx) : Prop :=
  (s 100 x = 2 ∧ x = a ∧ l = f + 3 ∧ t 178 f = 0 ∧ t 178 (f + 1) = 2 ∧ t 178 (f + 2) = s 101 x) ∨
  (s 100 x = 400 ∧ x = a ∧ l = f + 3 ∧ t 178 f = 0 ∧ t 178 (f + 1) = 3 ∧ t 178 (f + 2) = s 101 x ∧ 0 ≤ s 101 x ∧ s 101 x < 24 ∧ c.2.1 (s 101 x).toNat) ∨
  (s 100 x = 401 ∧ t 178 f = 0 ∧ (∃ m, R 0 0 a x (s 102 x) (f + 1) m 0 0 0 c ∧ t 178 m = 4 ∧ t 178 (m + 1) = s 101 x ∧ l = m + 2) ∧ 0 ≤ s 101 x ∧ s 101 x < 6 ∧ c.2.1 (24 + (s 101 x).toNat)) ∨
  (s 100 x = 402 ∧ ∃ m, R 0 0 a x (s 102 x) f m 0 0 0 c ∧ t 178 m = 0 ∧ t 178 (m + 1) = 8 ∧ t 178 (m + 2) = s 101 x ∧ l = m + 3) ∨
  (s 100 x = 403 ∧ ∃ b1 m1 m2, R 0 0 a b1 (s 102 x) f m1 0 0 0 c ∧ R 0 0 b1 x (s 103 x) m1 m2 0 0 0 c ∧ t 178 m2 = 0 ∧ t 178 (m2 + 1) = 7 ∧ t 178 (m2 + 2) = rsg (s 101 x) ∧ l = m2 + 3 ∧ 0 < lvl (s 101 x)) ∨
  (s 100 x = 404 ∧ CLk s t G R a x f l c ∧ G.2.2 (s 101 x).toNat)
def CSk (s t : tab) (G : Gmx) (R : COt) (a x f l k0 k1 : Nat) (c : Cxx) : Prop :=
  (t 178 f = 1 ∧ R 1 0 a (x + 1) (x : Int) (f + 1) l k0 k1 0 c) ∨
  (s 100 x = 314 ∧ x = a ∧ l = f + 1 ∧ t 178 f = 0 ∧ k1 = k0) ∨
  (s 100 x = 408 ∧ t 178 f = 0 ∧ ∃ n, 2 ≤ n ∧ R 3 n a x (s 101 x) (f + 1) l k0 k1 0 c) ∨
  (s 100 x = 405 ∧ t 178 f = 0 ∧ k1 = k0 ∧ s 103 x = -1 ∧ (∃ m, R 0 0 a x (s 102 x) (f + 1) m 0 0 0 c ∧ t 178 m = 5 ∧ t 178 (m + 1) = s 101 x ∧ l = m + 2) ∧ 0 ≤ s 101 x ∧ s 101 x < 24 ∧ c.2.2.1 (s 101 x).toNat) ∨
  (s 100 x = 405 ∧ t 178 f = 0 ∧ k1 = k0 ∧ (∃ b1 m1 m2, R 0 0 a b1 (s 103 x) (f + 1) m1 0 0 0 c ∧ R 0 0 b1 x (s 102 x) m1 m2 0 0 0 c ∧ t 178 m2 = 6 ∧ t 178 (m2 + 1) = s 101 x - 24 ∧ l = m2 + 2) ∧ 24 ≤ s 101 x ∧ s 101 x < 30 ∧ c.2.2.1 (s 101 x).toNat) ∨
  (s 100 x = 406 ∧ t 178 f = 0 ∧ k1 = k0 ∧ (∃ m, R 0 0 a x (s 102 x) (f + 1) m 0 0 0 c ∧ t 178 m = (if s 101 x < 8 then 13 else 15) ∧ t 178 (m + 1) = (if s 101 x < 8 then s 101 x else s 101 x - 8) ∧ l = m + 2) ∧ 0 ≤ s 101 x ∧ s 101 x < 12 ∧ c.2.2.2 (s 101 x).toNat) ∨
  (s 100 x = 407 ∧ t 178 f = 0 ∧ k1 = k0 ∧ (∃ m, (s 103 x = -1 ∧ a = x ∧ m = f + 1 ∧ 0 ≤ s 102 x ∧ s 102 x < 24 ∨ R 0 0 a x (s 103 x) (f + 1) m 0 0 0 c ∧ 24 ≤ s 102 x ∧ s 102 x < 30) ∧ t 178 m = (if s 101 x < 8 then 14 else 16) ∧ t 178 (m + 1) = (if s 101 x < 8 then s 101 x else s 101 x - 8) ∧ t 178 (m + 2) = (if s 102 x < 24 then 5 else 6) ∧ t 178 (m + 3) = (if s 102 x < 24 then s 102 x else s 102 x - 24) ∧ l = m + 4) ∧ 0 ≤ s 101 x ∧ s 101 x < 12 ∧ c.2.2.2 (12 + (s 101 x).toNat) ∧ c.2.2.1 (s 102 x).toNat) ∨
  (s 100 x = 404 ∧ CLk s t G R a x f l c ∧ k1 = k0 ∧ ¬ G.2.2 (s 101 x).toNat) ∨
  (s 100 x = 308 ∧ t 178 f = 0 ∧ ∃ b1 m m2, R 0 0 a b1 (s 101 x) (f + 1) m 0 0 0 c ∧ t 178 m = 10 ∧ (s 103 x = -1 ∧ R 1 0 b1 x (s 102 x) (m + 2) m2 k0 k1 0 c ∧ t 178 (m + 1) = (m2 : Int) ∧ l = m2 ∨ ∃ b2 kk, R 1 0 b1 b2 (s 102 x) (m + 2) m2 k0 kk 0 c ∧ R 1 0 b2 x (s 103 x) (m2 + 2) l kk k1 0 c ∧ t 178 m2 = 9 ∧ t 178 (m2 + 1) = (l : Int) ∧ t 178 (m + 1) = (m2 : Int) + 2)) ∨
  (s 100 x = 310 ∧ t 178 f = 0 ∧ ∃ b1 m m2, R 0 0 a b1 (s 101 x) (f + 1) m 0 0 0 c ∧ t 178 m = 10 ∧ t 178 (m + 1) = (l : Int) ∧ R 1 0 b1 x (s 102 x) (m + 2) m2 k0 k1 0 c ∧ t 178 m2 = 9 ∧ t 178 (m2 + 1) = (f : Int) + 1 ∧ l = m2 + 2) ∨
  (s 100 x = 311 ∧ t 178 f = 0 ∧ t 178 (f + 1) = 17 ∧ t 178 (f + 2) = (k0 : Int) ∧ t 178 (f + 3) = s 101 x ∧ t 178 (f + 4) = 18 ∧ t 178 (f + 5) = (k0 : Int) ∧ t 178 (f + 6) = (l : Int) ∧ 0 ≤ s 101 x ∧ s 101 x ≤ 65535 ∧ ∃ m, R 1 0 a x (s 102 x) (f + 7) m (k0 + 1) k1 0 c ∧ t 178 m = 9 ∧ t 178 (m + 1) = (f : Int) + 4 ∧ l = m + 2) ∨
  (s 100 x = 312 ∧ t 178 f = 0 ∧ t 178 (f + 1) = 19 ∧ t 178 (f + 2) = s 102 x ∧ t 178 (f + 9) = 9 ∧ t 178 (f + 10) = (l : Int) ∧ ∃ n : Nat, s 102 x = (n : Int) ∧ 2 ≤ n ∧ n ≤ 6 ∧ R 4 n a x (s 101 x) (f + 11) l k0 k1 (f + 3) c)
/-- one level of it -/
def COk (s t : tab) (G : Gmx) (R : COt) : COt := fun md n a b x f l k0 k1 q c =>
  (md = 0 ∧ a < b ∧ x + 1 = (b : Int) ∧ (b : Int) ≤ s 99 12 ∧ AUx c ∧ c.1 x.toNat ∧ CEk s t G R a x.toNat f l c) ∨
  (md = 1 ∧ a < b ∧ x + 1 = (b : Int) ∧ (b : Int) ≤ s 99 12 ∧ AUx c ∧ c.1 x.toNat ∧ CSk s t G R a x.toNat f l k0 k1 c) ∨
  ((md = 2 ∨ md = 3 ∨ md = 4) ∧ n = 0 ∧ a = b ∧ f = l ∧ x = -1 ∧ k1 = k0) ∨
  (md = 2 ∧ ∃ n1 b1 m, n = n1 + 1 ∧ R 0 0 a b1 x f m 0 0 0 c ∧ R 2 n1 b1 b (s 104 x.toNat) m l 0 0 0 c) ∨
  ((md = 3 ∨ md = 5) ∧ ∃ n1 b1 m kk, n = n1 + 1 ∧ R 1 0 a b1 x f m k0 kk 0 c ∧ R md n1 b1 b (s 104 x.toNat) m l kk k1 0 c) ∨
  (md = 4 ∧ ∃ n1 b1 m kk c1 c2, n = n1 + 1 ∧ R 1 0 a b1 x f m k0 kk 0 c1 ∧ t 178 m = 20 ∧ t 178 q = (f : Int) ∧ R 4 n1 b1 b (s 104 x.toNat) (m + 1) l kk k1 (q + 1) c2 ∧ SBx c1 c ∧ SBx c2 c ∧ NCx c1 c2 ∧ ∀ z, c1.1 z → z < b) ∨
  (md = 5 ∧ n = 0 ∧ R 0 0 a b x f l 0 0 0 c ∧ s 104 x.toNat = -1 ∧ k1 = k0)
def CO (s t : tab) (G : Gmx) : COt := fun md n a b x f l k0 k1 q c => ∀ R : COt, (∀ md n a b x f l k0 k1 q c, COk s t G R md n a b x f l k0 k1 q c → R md n a b x f l k0 k1 q c) → R md n a b x f l k0 k1 q c
section COW
variable {s t s2 t2 : tab} {G : Gmx} {R R2 : COt} {md n a b f l k0 k1 q : Nat} {x : Int} {c d : Cxx}
theorem CL_mono (h : ∀ md n a b x f l k0 k1 q c, R md n a b x f l k0 k1 q c → R2 md n a b x f l k0 k1 q c) {x : Nat} (k : CLk s t G R a x f l c) : CLk s t G R2 a x f l c := by
  obtain ⟨r, n, m, h1, h2, h3, h4, h5, h6, h7⟩ := k
  exact ⟨r, n, m, h1, h2, h3, h4, h5, h _ _ _ _ _ _ _ _ _ _ _ h6, h7⟩
theorem COk_mono (h : ∀ md n a b x f l k0 k1 q c, R md n a b x f l k0 k1 q c → R2 md n a b x f l k0 k1 q c) (k : COk s t G R md n a b x f l k0 k1 q c) : COk s t G R2 md n a b x f l k0 k1 q c := by
  rcases k with ⟨h1, h2, h3, h4, h5, h6, k⟩ | ⟨h1, h2, h3, h4, h5, h6, k⟩ | k | ⟨h1, n1, b1, m, h2, h3, h4⟩ | ⟨h1, n1, b1, m, kk, h2, h3, h4⟩ | ⟨h1, n1, b1, m, kk, c1, c2, h2, h3, h4, h5, h6, h7⟩ | ⟨h1, h2, h3, h4⟩
  · refine .inl ⟨h1, h2, h3, h4, h5, h6, ?_⟩
    rcases k with k | k | ⟨k1, k2, ⟨m, k3, k4⟩, k5⟩ | ⟨k1, m, k2, k3⟩ | ⟨k1, b1, m1, m2, k2, k3, k4⟩ | ⟨k1, k2, k3⟩
    · exact .inl k
    · exact .inr (.inl k)
    · exact .inr (.inr (.inl ⟨k1, k2, ⟨m, h _ _ _ _ _ _ _ _ _ _ _ k3, k4⟩, k5⟩))
    · exact .inr (.inr (.inr (.inl ⟨k1, m, h _ _ _ _ _ _ _ _ _ _ _ k2, k3⟩)))
    · exact .inr (.inr (.inr (.inr (.inl ⟨k1, b1, m1, m2, h _ _ _ _ _ _ _ _ _ _ _ k2, h _ _ _ _ _ _ _ _ _ _ _ k3, k4⟩))))
    · exact .inr (.inr (.inr (.inr (.inr ⟨k1, CL_mono h k2, k3⟩))))
  · refine .inr (.inl ⟨h1, h2, h3, h4, h5, h6, ?_⟩)
    rcases k with ⟨k1, k2⟩ | k | ⟨k1, k2, n, k3, k4⟩ | ⟨k1, k2, k3, k4, ⟨m, k5, k6⟩, k7⟩ | ⟨k1, k2, k3, ⟨b1, m1, m2, k4, k5, k6⟩, k7⟩ | ⟨k1, k2, k3, ⟨m, k4, k5⟩, k6⟩ | ⟨k1, k2, k3, ⟨m, k4, k5⟩, k6⟩ | ⟨k1, k2, k3⟩ | ⟨k1, k2, b1, m, m2, k3, k4, k5⟩ | ⟨k1, k2, b1, m, m2, k3, k4, k5, k6, k7⟩ | ⟨k1, k2, k3, k4, k5, k6, k7, k8, k9, k10, m, k11, k12⟩ | ⟨k1, k2, k3, k4, k5, k6, n, k7, k8, k9, k10⟩
    · exact .inl ⟨k1, h _ _ _ _ _ _ _ _ _ _ _ k2⟩
    · exact .inr (.inl k)
    · exact .inr (.inr (.inl ⟨k1, k2, n, k3, h _ _ _ _ _ _ _ _ _ _ _ k4⟩))
    · exact .inr (.inr (.inr (.inl ⟨k1, k2, k3, k4, ⟨m, h _ _ _ _ _ _ _ _ _ _ _ k5, k6⟩, k7⟩)))
    · exact .inr (.inr (.inr (.inr (.inl ⟨k1, k2, k3, ⟨b1, m1, m2, h _ _ _ _ _ _ _ _ _ _ _ k4, h _ _ _ _ _ _ _ _ _ _ _ k5, k6⟩, k7⟩))))
    · exact .inr (.inr (.inr (.inr (.inr (.inl ⟨k1, k2, k3, ⟨m, h _ _ _ _ _ _ _ _ _ _ _ k4, k5⟩, k6⟩)))))
    · exact .inr (.inr (.inr (.inr (.inr (.inr (.inl ⟨k1, k2, k3, ⟨m, k4.imp id (fun w => ⟨h _ _ _ _ _ _ _ _ _ _ _ w.1, w.2⟩), k5⟩, k6⟩))))))
    · exact .inr (.inr (.inr (.inr (.inr (.inr (.inr (.inl ⟨k1, CL_mono h k2, k3⟩)))))))
    · refine .inr (.inr (.inr (.inr (.inr (.inr (.inr (.inr (.inl ⟨k1, k2, b1, m, m2, h _ _ _ _ _ _ _ _ _ _ _ k3, k4, ?_⟩))))))))
      rcases k5 with ⟨w1, w2, w3⟩ | ⟨b2, kk, w1, w2, w3⟩
      · exact .inl ⟨w1, h _ _ _ _ _ _ _ _ _ _ _ w2, w3⟩
      · exact .inr ⟨b2, kk, h _ _ _ _ _ _ _ _ _ _ _ w1, h _ _ _ _ _ _ _ _ _ _ _ w2, w3⟩
    · exact .inr (.inr (.inr (.inr (.inr (.inr (.inr (.inr (.inr (.inl ⟨k1, k2, b1, m, m2, h _ _ _ _ _ _ _ _ _ _ _ k3, k4, k5, h _ _ _ _ _ _ _ _ _ _ _ k6, k7⟩)))))))))
    · exact .inr (.inr (.inr (.inr (.inr (.inr (.inr (.inr (.inr (.inr (.inl ⟨k1, k2, k3, k4, k5, k6, k7, k8, k9, k10, m, h _ _ _ _ _ _ _ _ _ _ _ k11, k12⟩))))))))))
    · exact .inr (.inr (.inr (.inr (.inr (.inr (.inr (.inr (.inr (.inr (.inr ⟨k1, k2, k3, k4, k5, k6, n, k7, k8, k9, h _ _ _ _ _ _ _ _ _ _ _ k10⟩))))))))))
  · exact .inr (.inr (.inl k))
  · exact .inr (.inr (.inr (.inl ⟨h1, n1, b1, m, h2, h _ _ _ _ _ _ _ _ _ _ _ h3, h _ _ _ _ _ _ _ _ _ _ _ h4⟩)))
  · exact .inr (.inr (.inr (.inr (.inl ⟨h1, n1, b1, m, kk, h2, h _ _ _ _ _ _ _ _ _ _ _ h3, h _ _ _ _ _ _ _ _ _ _ _ h4⟩))))
  · exact .inr (.inr (.inr (.inr (.inr (.inl ⟨h1, n1, b1, m, kk, c1, c2, h2, h _ _ _ _ _ _ _ _ _ _ _ h3, h4, h5, h _ _ _ _ _ _ _ _ _ _ _ h6, h7⟩)))))
  · exact .inr (.inr (.inr (.inr (.inr (.inr ⟨h1, h2, h _ _ _ _ _ _ _ _ _ _ _ h3, h4⟩)))))
theorem CO_mk (h : COk s t G (CO s t G) md n a b x f l k0 k1 q c) : CO s t G md n a b x f l k0 k1 q c := fun R hR => hR _ _ _ _ _ _ _ _ _ _ _ (COk_mono (fun _ _ _ _ _ _ _ _ _ _ _ w => w R hR) h)
theorem CO_un (h : CO s t G md n a b x f l k0 k1 q c) : COk s t G (CO s t G) md n a b x f l k0 k1 q c := h (COk s t G (CO s t G)) (fun _ _ _ _ _ _ _ _ _ _ _ w => COk_mono (fun _ _ _ _ _ _ _ _ _ _ _ => CO_mk) w)
/-- places rise -/
theorem CO_le (h : CO s t G md n a b x f l k0 k1 q c) : a ≤ b ∧ f ≤ l ∧ (md ≤ 1 → a < b) := by
  refine h (fun md n a b x f l k0 k1 q c => a ≤ b ∧ f ≤ l ∧ (md ≤ 1 → a < b)) ?_
  intro md n a b x f l k0 k1 q c k
  rcases k with ⟨h1, h2, h3, h4, h5, h6, k⟩ | ⟨h1, h2, h3, h4, h5, h6, k⟩ | k | ⟨h1, n1, b1, m, h2, h3, h4⟩ | ⟨h1, n1, b1, m, kk, h2, h3, h4⟩ | ⟨h1, n1, b1, m, kk, c1, c2, h2, h3, h4, h5, h6, h7⟩ | ⟨h1, h2, h3, h4⟩
  · refine ⟨by omega, ?_, fun _ => h2⟩
    rcases k with k | k | ⟨k1, k2, ⟨m, k3, k4⟩, k5⟩ | ⟨k1, m, k2, k3⟩ | ⟨k1, b1, m1, m2, k2, k3, k4⟩ | ⟨k1, ⟨r, n, m, _, _, _, _, _, k2, _, _, _, k3, _⟩, _⟩
    · omega
    · omega
    · have := k3.2.1; omega
    · have := k2.2.1; omega
    · have := k2.2.1; have := k3.2.1; omega
    · have := k2.2.1; omega
  · refine ⟨by omega, ?_, fun _ => h2⟩
    rcases k with ⟨k1, k2⟩ | k | ⟨k1, k2, n, k3, k4⟩ | ⟨k1, k2, k3, k4, ⟨m, k5, k6⟩, k7⟩ | ⟨k1, k2, k3, ⟨b1, m1, m2, k4, k5, k6⟩, k7⟩ | ⟨k1, k2, k3, ⟨m, k4, k5⟩, k6⟩ | ⟨k1, k2, k3, ⟨m, k4, k5⟩, k6⟩ | ⟨k1, ⟨r, n, m, _, _, _, _, _, k2, _, _, _, k3, _⟩, _⟩ | ⟨k1, k2, b1, m, m2, k3, k4, k5⟩ | ⟨k1, k2, b1, m, m2, k3, k4, k5, k6, k7⟩ | ⟨k1, k2, k3, k4, k5, k6, k7, k8, k9, k10, m, k11, k12⟩ | ⟨k1, k2, k3, k4, k5, k6, n, k7, k8, k9, k10⟩
    · have := k2.2.1; omega
    · omega
    · have := k4.2.1; omega
    · have := k5.2.1; omega
    · have := k4.2.1; have := k5.2.1; omega
    · have := k4.2.1; omega
    · rcases k4 with w | ⟨w, _⟩
      · omega
      · have := w.2.1; omega
    · have := k2.2.1; omega
    · have := k3.2.1
      rcases k5 with ⟨w1, w2, w3⟩ | ⟨b2, kk, w1, w2, w3⟩
      · have := w2.2.1; omega
      · have := w1.2.1; have := w2.2.1; omega
    · have := k3.2.1; have := k6.2.1; omega
    · have := k11.2.1; omega
    · have := k10.2.1; omega
  · exact ⟨by omega, by omega, fun w => by omega⟩
  · have := h3.1; have := h3.2.1; have := h4.1; have := h4.2.1
    exact ⟨by omega, by omega, fun w => by omega⟩
  · have := h3.1; have := h3.2.1; have := h4.1; have := h4.2.1
    exact ⟨by omega, by omega, fun w => by omega⟩
  · have := h3.1; have := h3.2.1; have := h6.1; have := h6.2.1
    exact ⟨by omega, by omega, fun w => by omega⟩
  · have := h3.1; have := h3.2.1
    exact ⟨by omega, by omega, fun w => by omega⟩
end COW
