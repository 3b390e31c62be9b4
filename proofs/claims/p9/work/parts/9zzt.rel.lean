/-! The reference at work and the parts machine: how they stand to each other. -/
def KO (K : SCt) (s : tab) (act : Nat → Prop) (y : Int) (ch md l : Nat) (S B : List Int) (tp : Int) : Prop := ∃ k, KON K s act k y ch md l S B tp
def LVb (r : tab) (b : Nat) : Prop := (b : Int) < r 170 55 ∧ r 206 b ≠ 0
/-- whose branch a branch is -/
def PLk (r : tab) (lf : Nat → Int) (b : Nat) (tp : Int) : Prop := tp = -1 ∨ ∃ q : Nat, r 210 b = (q : Int) ∧ (q : Int) < r 170 55 ∧ q < 700 ∧ r 206 q = 6 ∧ lf q = tp ∧ 0 ≤ tp ∧ q ≠ b
/-- the subscript of a RECEIVE -/
def SBp (K : SCt) (V : Int → Int → Prop) (x : Nat) (P : List Int) : Prop := (K.1 102 x < 24 ∧ K.1 103 x = -1 ∧ P = []) ∨ (24 ≤ K.1 102 x ∧ ∃ v, P = [v] ∧ V (K.1 103 x) v)
section BRS
variable (K : SCt) (W : Prop) (r s : tab) (Q : Nat → Nat) (act : Nat → Prop) (lf dr : Nat → Int) (LG : Nat → Prop) (b : Nat)
/-- at the beginning of a part -/
def BEG : Prop := r 206 b = 1 ∧ ∃ (x md f l a k0 k1 : Nat) (c : Cxx) (S B : List Int) (tp : Int), lf b = (x : Int) ∧ dr b = -1 ∧ act x ∧ Q x = 1 ∧ s 144 x = -1 ∧ ¬ LG x ∧ md ≤ 1 ∧ CPX K md 0 a (x + 1) (x : Int) f l k0 k1 0 c ∧ BVx r b f S B ∧ KO K s act (s 143 x) x md l S B tp ∧ PLk r lf b tp
/-- a value has been received -/
def FLG : Prop := r 206 b = 1 ∧ ∃ (x m : Nat) (S B P : List Int) (tp : Int), lf b = (x : Int) ∧ dr b = -1 ∧ act x ∧ Q x = 1 ∧ FGx s x ∧ 0 ≤ s 144 x ∧ ¬ LG x ∧ RCx K x m (m + 4) ∧ SBp K (PVy K s act x) x P ∧ BVx r b (m + 2) (s 145 x :: (P ++ S)) B ∧ KO K s act (s 143 x) x 1 (m + 4) S B tp ∧ PLk r lf b tp
/-- a child is done -/
def DON : Prop := r 206 b = 1 ∧ ∃ (z ch md l md2 l2 pc : Nat) (P rb S B : List Int) (tp : Int), lf b = (z : Int) ∧ dr b = -1 ∧ act z ∧ Q z = 1 ∧ ¬ LG z ∧ ¬ act ch ∧ FRM K (s 144 z) (s 146 z) (PVy K s act z) z ch md l md2 l2 P rb ∧ PLC K pc l ∧ BVx r b pc ((if md = 0 then [s 145 ch] else []) ++ (P ++ S)) (rb ++ B) ∧ KO K s act (s 143 z) z md2 l2 S B tp ∧ PLk r lf b tp
/-- the branch's own part is done -/
def DRT : Prop := r 206 b = 1 ∧ ∃ (l pc : Nat) (tp : Int), lf b = -1 ∧ PLC K pc l ∧ l < 25000 ∧ BVx r b pc [] [] ∧ ((tp = -1 ∧ dr b = -1 ∧ cd K l = 21 ∧ s 142 13 = 1 ∧ ∀ q, ¬ act q) ∨ (dr b = tp ∧ 0 ≤ tp ∧ act tp.toNat ∧ PBg s tp.toNat ∧ cd K l = 20)) ∧ PLk r lf b tp
/-- it waits to send -/
def SND : Prop := ∃ (x l : Nat) (S B : List Int) (v tp : Int), lf b = (x : Int) ∧ dr b = -1 ∧ act x ∧ K.1 100 x = 406 ∧ (0 ≤ K.1 101 x ∧ K.1 101 x < 12) ∧ 1 ≤ s 144 x ∧ ¬ LG x ∧ PVy K s act x (K.1 102 x) v ∧ ((K.1 101 x < 8 ∧ r 206 b = 2 ∧ r 207 b = K.1 101 x ∧ BVx r b l (v :: S) B) ∨ (8 ≤ K.1 101 x ∧ r 206 b = 4 ∧ r 207 b = K.1 101 x - 8 ∧ ∃ m, l = m + 2 ∧ cd K m = 15 ∧ cd K (m + 1) = K.1 101 x - 8 ∧ BVx r b m (v :: S) B)) ∧ l < 25000 ∧ (Q x = 1 ∨ (W ∨ K.1 101 x < 8) ∧ Q x = 0 ∧ s 152 (K.1 101 x).toNat = (x : Int)) ∧ KO K s act (s 143 x) x 1 l S B tp ∧ PLk r lf b tp
/-- it waits to receive -/
def RCV : Prop := ∃ (x m : Nat) (S B P : List Int) (tp : Int), lf b = (x : Int) ∧ dr b = -1 ∧ act x ∧ K.1 100 x = 407 ∧ s 147 x = 0 ∧ RCx K x m (m + 4) ∧ SBp K (PVy K s act x) x P ∧ (K.1 103 x = -1 ∨ 1 ≤ s 144 x) ∧ (LG x ↔ s 144 x < 0) ∧ ((K.1 101 x < 8 ∧ r 206 b = 3 ∧ r 207 b = K.1 101 x ∧ BVx r b (m + 2) (P ++ S) B) ∨ (8 ≤ K.1 101 x ∧ r 206 b = 5 ∧ r 207 b = K.1 101 x - 8 ∧ BVx r b m (P ++ S) B)) ∧ (Q x = 1 ∨ (W ∨ K.1 101 x < 8) ∧ Q x = 0 ∧ (0 ≤ s 144 x ∧ 2 ≤ sgu K.1 x (s 144 x)) ∧ s 153 (K.1 101 x).toNat = (x : Int)) ∧ KO K s act (s 143 x) x 1 (m + 4) S B tp ∧ PLk r lf b tp
/-- it waits for its branches -/
def JOI : Prop := r 206 b = 6 ∧ ∃ (x f l : Nat) (S B : List Int) (tp : Int), lf b = (x : Int) ∧ dr b = -1 ∧ act x ∧ PBg s x ∧ ¬ LG x ∧ r 211 b + s 144 x = K.1 102 x + 1 ∧ 1 ≤ r 211 b ∧ cd K (f + 9) = 9 ∧ cd K (f + 10) = (l : Int) ∧ l < 25000 ∧ f + 9 < 25000 ∧ BVx r b (f + 9) S B ∧ KO K s act (s 143 x) x 1 l S B tp ∧ PLk r lf b tp
def BRx : Prop := b < 700 ∧ (BEG K r s Q act lf dr LG b ∨ FLG K r s Q act lf dr LG b ∨ DON K r s Q act lf dr LG b ∨ DRT K r s act lf dr b ∨ SND K W r s Q act lf dr LG b ∨ RCV K W r s Q act lf dr LG b ∨ JOI K r s act lf dr LG b)
end BRS
/-- a queue, in both -/
def QQx (h : Int) (f q g : Nat → Int) : Prop := h = q 2 ∧ 0 ≤ h ∧ h ≤ 40 ∧ 0 ≤ q 1 ∧ q 1 < 40 ∧ ∀ k : Nat, (k : Int) < h → f k = g ((q 1 + (k : Int)) % 40).toNat
/-- variables, arrays, queues -/
def SHx (K : SCt) (r s : tab) : Prop := (∀ v, v < 24 → r 203 v = s 148 v) ∧ (∀ a j, a < 6 → j < 64 → r (213 + a) j = s 149 (a * 64 + j)) ∧ (∀ v, v < 24 → bnd K.1 v → r 179 v = K.1 110 v) ∧ (∀ a, a < 6 → bnd K.1 (24 + a) → r 180 a = K.1 111 a ∧ 1 ≤ K.1 111 a ∧ K.1 111 a ≤ 64) ∧ ∀ i, i < 4 → QQx (r 1630 i) (r (1622 + i)) (s (154 + 2 * i)) (s (155 + 2 * i)) ∧ QQx (r 1630 (4 + i)) (r (1626 + i)) (s (162 + 2 * i)) (s (163 + 2 * i))
/-- what stays of the reference's table -/
def STr (K : SCt) (r : tab) : Prop := (∀ i, r 178 i = cd K i) ∧ (∀ v, v < 24 → bnd K.1 v → r 179 v = K.1 110 v) ∧ ∀ a, a < 6 → bnd K.1 (24 + a) → r 180 a = K.1 111 a ∧ 1 ≤ K.1 111 a ∧ K.1 111 a ≤ 64
theorem ST_e {K : SCt} {r r2 : tab} (h : STr K r) (o : ∀ k j, k = 178 ∨ k = 179 ∨ k = 180 → r2 k j = r k j) : STr K r2 := ⟨fun i => (o 178 i (by omega)).trans (h.1 i), fun v q1 q2 => (o 179 v (by omega)).trans (h.2.1 v q1 q2), fun a q1 q2 => by rw [o 180 a (by omega)]; exact h.2.2 a q1 q2⟩
theorem ST_h {K : SCt} {r s : tab} (hc : ∀ i, r 178 i = cd K i) (h : SHx K r s) : STr K r := ⟨hc, h.2.2.1, h.2.2.2.1⟩
theorem SH_fr {K : SCt} {r s r2 s2 : tab} (h : SHx K r s) (hr : ∀ k j, k = 179 ∨ k = 180 ∨ k = 203 ∨ 213 ≤ k ∧ k ≤ 218 ∨ 1622 ≤ k ∧ k ≤ 1630 → r2 k j = r k j) (hs : ∀ k j, k = 148 ∨ k = 149 ∨ 154 ≤ k ∧ k ≤ 169 → s2 k j = s k j) : SHx K r2 s2 := by
  obtain ⟨h1, h2, h3, h4, h5⟩ := h
  have q : ∀ {a i f q g : Nat}, (1622 ≤ a ∧ a ≤ 1630) → (1622 ≤ f ∧ f ≤ 1630) → (154 ≤ q ∧ q ≤ 169) → (154 ≤ g ∧ g ≤ 169) → QQx (r a i) (r f) (s q) (s g) → QQx (r2 a i) (r2 f) (s2 q) (s2 g) := fun {a i f q g} e1 e2 e3 e4 w => by
    have ef : r2 f = r f := funext fun j => hr f j (by omega)
    have eq : s2 q = s q := funext fun j => hs q j (by omega)
    have eg : s2 g = s g := funext fun j => hs g j (by omega)
    rw [hr a i (by omega), ef, eq, eg]
    exact w
  refine ⟨fun v hv => by rw [hr _ _ (by omega), hs _ _ (by omega)]; exact h1 v hv, fun a j q1 q2 => by rw [hr _ _ (by omega), hs _ _ (by omega)]; exact h2 a j q1 q2, fun v q1 q2 => by rw [hr _ _ (by omega)]; exact h3 v q1 q2, fun a q1 q2 => by rw [hr _ _ (by omega)]; exact h4 a q1 q2, fun i hi => ⟨q (by omega) (by omega) (by omega) (by omega) (h5 i hi).1, q (by omega) (by omega) (by omega) (by omega) (h5 i hi).2⟩⟩
/-- signs that have begun: the reference counts them when they are done -/
def PNd (K : SCt) (s : tab) (act : Nat → Prop) (p : Nat) : Prop := act p ∧ (K.1 100 p = 402 ∨ K.1 100 p = 403) ∧ 0 ≤ s 144 p
noncomputable def pfx (K : SCt) (s : tab) (act LG : Nat → Prop) (p : Nat) : Int := ind (PNd K s act p) - ind (LG p)
/-- parts that have a value to take -/
def FL7 (K : SCt) (s : tab) (act : Nat → Prop) : Prop := ∀ p, s 147 p ≠ 0 → act p ∧ K.1 100 p = 407 ∧ 2 ≤ sgu K.1 p (s 144 p)
/-- while all is done, a branch has END before it -/
def L13 (r s : tab) (act : Nat → Prop) : Prop := s 142 13 = 0 ∨ s 142 13 = 1 ∧ (∀ q, ¬ act q) ∧ ∃ b, LVb r b ∧ r 206 b = 1
theorem L13_0 {r s : tab} {act : Nat → Prop} {p : Nat} (h : L13 r s act) (ap : act p) : s 142 13 = 0 := h.elim id (fun w => absurd ap (w.2.1 p))
/-- the whole -/
def REL (K : SCt) (M : Nat) (W : Prop) (r s : tab) (Q : Nat → Nat) (n : Nat) (act : Nat → Prop) (lf dr : Nat → Int) (LG : Nat → Prop) : Prop :=
  PSy M K.2.2.2.1 K.2.2.2.2.2 s Q act ∧ ((∀ k j, 99 ≤ k ∧ k ≤ 114 → s k j = K.1 k j) ∧ ∀ i, r 178 i = cd K i) ∧
  (∀ b, LVb r b → BRx K W r s Q act lf dr LG b) ∧
  (∀ b b2, LVb r b → LVb r b2 → 0 ≤ lf b → lf b = lf b2 → b = b2) ∧
  (∀ p : Nat, act p → NoC s act p → ∃ b, LVb r b ∧ lf b = (p : Int)) ∧
  (∀ p : Nat, act p → PBg s p → (Q p : Int) = smx (fun b => ind (LVb r b ∧ dr b = (p : Int))) 700) ∧
  SHx K r s ∧
  (∀ y, act y → K.1 100 y = 311 → 1 ≤ s 144 y → r 204 (K.2.2.2.2.1 y) = K.1 101 y - s 144 y) ∧
  (∀ L, L < 8 → ¬ (0 ≤ s 152 L ∧ 0 ≤ s 153 L)) ∧
  (n : Int) = r 170 53 + smx (pfx K s act LG) M ∧
  (∀ p, LG p → act p ∧ Q p = 1 ∧ s 144 p < 0 ∧ K.1 100 p = 407 ∧ s 147 p = 0 ∧ K.1 103 p = -1) ∧
  0 ≤ r 170 55 ∧ r 170 55 ≤ 700 ∧ 0 ≤ r 170 53 ∧ r 170 53 ≤ r 170 54 ∧ r 170 54 ≤ 20000 ∧ r 170 52 = 2 ∧ FL7 K s act ∧ L13 r s act
