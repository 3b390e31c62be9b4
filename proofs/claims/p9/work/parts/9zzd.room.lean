/-! There is room for all that are ready. -/
section ROOM
variable {s s2 : tab} {Q Q2 : Nat → Nat} {act act2 : Nat → Prop} {cx : Nat → Cxx} {anc : Nat → Nat → Prop} {p n M N : Nat} {IN : Nat → Prop}
theorem CH_ext {y : Nat} {c : Int} (h : ∀ k j, 99 ≤ k ∧ k ≤ 114 → s2 k j = s k j) : CHl s2 y c ↔ CHl s y c := by
  unfold CHl
  simp only [h 100 _ (by omega), h 101 _ (by omega), h 102 _ (by omega), h 103 _ (by omega), nth_ext h]
theorem CHb_ext {y : Nat} {c : Int} (h : ∀ k j, 99 ≤ k ∧ k ≤ 114 → s2 k j = s k j) : CHb s2 y c ↔ CHb s y c := by
  unfold CHb
  rw [CH_ext h]
  simp only [h 100 _ (by omega), h 101 _ (by omega), h 114 _ (by omega), nth_ext h]
theorem INC_ext (h : ∀ k j, 99 ≤ k ∧ k ≤ 114 → s2 k j = s k j) (k : INC s N IN) : INC s2 N IN := by
  unfold INC
  simp only [CH_ext h, h 100 _ (by omega), h 101 _ (by omega), h 114 _ (by omega), h 99 _ (by omega), nth_ext h]
  exact k
/-- those at work are parts of the program, each asked by who may ask it -/
def KJx (s : tab) (act IN : Nat → Prop) : Prop := (∀ r, act r → IN r) ∧ (∀ q y : Nat, act q → s 143 q = (y : Int) → CHb s y (q : Int)) ∧ ∀ q, act q → s 143 q = -1 → (q : Int) = s 99 13
theorem st_114 (h : JGx s Q act cx anc) (hp : 0 < Q p) : ∀ k j, 99 ≤ k ∧ k ≤ 114 → (stx (s, Q, n) p).1 k j = s k j := by
  have ap := (h.2.2.2.2.2.2.1 p hp).1
  exact W_114 (W2_w h.1 (h.2.2.1 p ap).1 (h.2.2.1 p ap).2 (J_ptn h hp))
theorem KJ_step (hK : KJx s act IN) (hI : INC s N IN) (h : JGx s Q act cx anc) (hp : 0 < Q p) (hw : NWx s Q act p n act2) : KJx (stx (s, Q, n) p).1 act2 IN := by
  have e0 := st_114 (n := n) h hp
  have ap := (h.2.2.2.2.2.2.1 p hp).1
  refine ⟨fun r hr => ?_, fun q y hq e => ?_, fun q hq e => ?_⟩
  · rcases hw r hr with w | ⟨_, w⟩
    · exact hK.1 r w.1
    · rcases w with w | ⟨w1, i, w2⟩
      · have := hI.1 p _ (hK.1 p ap) w
        rw [Int.toNat_natCast] at this
        exact this
      · have c := hI.2.1 p (hK.1 p ap) w1
        have := hI.2.2.1 (s 101 p).toNat (by omega) i (by rw [← w2]; omega)
        rw [← w2, Int.toNat_natCast] at this
        exact this
  · rw [CHb_ext e0]
    rcases hw q hq with ⟨w1, w2⟩ | ⟨w1, w2⟩
    · rw [w2] at e
      exact hK.2.1 q y w1 e
    · rw [w1] at e
      have : p = y := by omega
      rw [← this]
      exact w2
  · rw [e0 99 13 (by omega)]
    rcases hw q hq with ⟨w1, w2⟩ | ⟨w1, w2⟩
    · rw [w2] at e
      exact hK.2.2 q w1 e
    · rw [w1] at e
      omega
theorem smz_a {f g : Nat → Int} : ∀ n, smx (fun i => f i + g i) n = smx f n + smx g n
  | 0 => rfl
  | n + 1 => by
    show smx (fun i => f i + g i) n + (f n + g n) = smx f n + f n + (smx g n + g n)
    rw [smz_a n]
    omega
theorem smz_0 : ∀ n, smx (fun _ => 0) n = 0
  | 0 => rfl
  | n + 1 => by
    show smx (fun _ => 0) n + 0 = 0
    rw [smz_0 n]
    rfl
theorem smz_sw {F : Nat → Nat → Int} {m : Nat} : ∀ k, smx (fun r => smx (fun q => F r q) m) k = smx (fun q => smx (fun r => F r q) k) m
  | 0 => (smz_0 m).symm
  | k + 1 => by
    show smx (fun r => smx (fun q => F r q) m) k + smx (fun q => F k q) m = smx (fun q => smx (fun r => F r q) k + F k q) m
    rw [smz_sw k, smz_a m]
theorem smz_1 {P : Nat → Prop} (hu : ∀ i j, P i → P j → i = j) : ∀ k, smx (fun r => ind (P r)) k ≤ 1 ∧ ((∀ i, i < k → ¬ P i) → smx (fun r => ind (P r)) k = 0)
  | 0 => ⟨by show (0 : Int) ≤ 1; omega, fun _ => rfl⟩
  | k + 1 => by
    obtain ⟨a1, a2⟩ := smz_1 hu k
    have e : smx (fun r => ind (P r)) (k + 1) = smx (fun r => ind (P r)) k + ind (P k) := rfl
    rw [e]
    refine ⟨?_, fun hn => ?_⟩
    · by_cases c : P k
      · have := a2 (fun i hi q => by have := hu i k q c; omega)
        rw [this, ind_t c]
        omega
      · rw [ind_f c]
        omega
    · rw [a2 (fun i hi => hn i (by omega)), ind_f (hn k (by omega))]
      rfl
/-- branches that are done -/
noncomputable def icx (s : tab) (act : Nat → Prop) (M r : Nat) : Int := smx (fun m => ind (¬ act m ∧ act r ∧ PBg s r ∧ CHl s r (m : Int))) M
theorem ic_par (h : JGx s Q act cx anc) (hK : KJx s act IN) (hI : INC s N IN) (hu : ∀ y z c, IN y → IN z → CHl s y c → CHl s z c → y = z) (hM : s 99 12 ≤ (M : Int)) {y : Nat} (ay : act y) (hb : PBg s y) {l : List Nat} (l1 : l.Nodup) (l2 : ∀ q, q ∈ l ↔ act q ∧ s 143 q = (y : Int)) : s 102 y ≤ (l.length : Int) + icx s act M y := by
  obtain ⟨_, hlt, _, _, _, _, _, _, _, _, _, _, _, _, _, k13⟩ := EF_k (h.2.2.1 y ay).1
  obtain ⟨⟨g1, g2⟩, cs, g3, g4⟩ := k13 hb.1
  obtain ⟨m, hm⟩ : ∃ m : Nat, s 102 y = (m : Int) := ⟨(s 102 y).toNat, by omega⟩
  have hm2 : (s 102 y).toNat = m := by omega
  rw [hm2] at g3 g4
  have inj : ∀ i j, i < m → j < m → nth s i (s 101 y) = nth s j (s 101 y) → i = j := fun i j hi hj e => Classical.byContradiction fun ne => by
    have a := EF_p (g3 i hi).2.2.2.2
    have b := EF_p (g3 j hj).2.2.2.2
    rw [e] at a
    exact (g4 i j hi hj ne).1 _ ⟨a, b⟩
  have rng : ∀ i, i < m → 0 ≤ nth s i (s 101 y) ∧ nth s i (s 101 y) < (M : Int) := fun i hi => by
    have := (g3 i hi).2.2
    exact ⟨this.1, by have := this.2.1; omega⟩
  have chl : ∀ i, i < m → CHl s y (nth s i (s 101 y)) := fun i hi => (CH_312 hb.1).mpr ⟨i, by omega, rfl⟩
  have inl : ∀ i, i < m → act (nth s i (s 101 y)).toNat → (nth s i (s 101 y)).toNat ∈ l := fun i hi ac => by
    refine (l2 _).mpr ⟨ac, ?_⟩
    have e : (((nth s i (s 101 y)).toNat : Nat) : Int) = nth s i (s 101 y) := Int.toNat_of_nonneg (rng i hi).1
    rcases h.2.2.2.1 _ ac with k | ⟨z, k, az, _⟩
    · have := hK.2.2 _ ac k
      rw [e] at this
      have c := chl i hi
      rw [this] at c
      exact absurd c (hI.2.2.2.2.2 y (hK.1 y ay))
    · have c := hK.2.1 _ z ac k
      rw [e] at c
      rcases c with c | ⟨c1, j, c2⟩
      · rw [k, hu z y _ (hK.1 z az) (hK.1 y ay) c (chl i hi)]
      · have d := hI.2.1 z (hK.1 z az) c1
        have c3 := chl i hi
        rw [c2] at c3
        exact absurd c3 (hI.2.2.2.2.1 y (s 101 z).toNat j (hK.1 y ay) (by omega) (by rw [← c2]; exact (rng i hi).1))
  have key : ∀ k, k ≤ m → ∃ l3 : List Nat, l3.Nodup ∧ l3.length ≤ l.length ∧ (∀ i, k ≤ i → i < m → act (nth s i (s 101 y)).toNat → (nth s i (s 101 y)).toNat ∈ l3) ∧ (k : Int) + (l3.length : Int) ≤ (l.length : Int) + smx (fun q => ind (∃ i, i < k ∧ (q : Int) = nth s i (s 101 y) ∧ ¬ act q)) M := by
    intro k
    induction k with
    | zero =>
      intro _
      refine ⟨l, l1, Nat.le_refl _, fun i _ hi ac => inl i hi ac, ?_⟩
      have := smz_le (f := fun _ => 0) (g := fun q => ind (∃ i, i < 0 ∧ (q : Int) = nth s i (s 101 y) ∧ ¬ act q)) M (fun _ _ => ind_r.1)
      rw [smz_0] at this
      omega
    | succ k ih =>
      intro hk
      obtain ⟨l3, a1, a2, a3, a4⟩ := ih (by omega)
      have rk := rng k (by omega)
      have mono := smz_le (f := fun q => ind (∃ i, i < k ∧ (q : Int) = nth s i (s 101 y) ∧ ¬ act q)) (g := fun q => ind (∃ i, i < k + 1 ∧ (q : Int) = nth s i (s 101 y) ∧ ¬ act q)) M (fun q _ => ind_le (fun w => ⟨w.choose, by have := w.choose_spec.1; omega, w.choose_spec.2⟩))
      by_cases ac : act (nth s k (s 101 y)).toNat
      · have mem := a3 k (Nat.le_refl _) (by omega) ac
        have lp := List.length_pos_of_mem mem
        refine ⟨l3.erase (nth s k (s 101 y)).toNat, a1.erase _, ?_, fun i h1 h2 h3 => ?_, ?_⟩
        · rw [List.length_erase_of_mem mem]
          omega
        · rw [a1.mem_erase_iff]
          refine ⟨fun e => ?_, a3 i (by omega) h2 h3⟩
          have ri := rng i h2
          have := inj i k h2 (by omega) (by omega)
          omega
        · rw [List.length_erase_of_mem mem]
          omega
      · refine ⟨l3, a1, a2, fun i h1 h2 h3 => a3 i (by omega) h2 h3, ?_⟩
        have st := smz_le (f := fun q => ind (∃ i, i < k ∧ (q : Int) = nth s i (s 101 y) ∧ ¬ act q) + (if q = (nth s k (s 101 y)).toNat then 1 else 0)) (g := fun q => ind (∃ i, i < k + 1 ∧ (q : Int) = nth s i (s 101 y) ∧ ¬ act q)) M (fun q _ => by
          by_cases e : q = (nth s k (s 101 y)).toNat
          · rw [if_pos e, ind_f (fun w => by
              obtain ⟨i, w1, w2, _⟩ := w
              have := inj i k (by omega) (by omega) (by omega)
              omega), ind_t ⟨k, by omega, by omega, by rw [e]; exact ac⟩]
            omega
          · rw [if_neg e]
            have := ind_le (P := ∃ i, i < k ∧ (q : Int) = nth s i (s 101 y) ∧ ¬ act q) (R := ∃ i, i < k + 1 ∧ (q : Int) = nth s i (s 101 y) ∧ ¬ act q) (fun w => ⟨w.choose, by have := w.choose_spec.1; omega, w.choose_spec.2⟩)
            omega)
        rw [smz_u, if_pos (by omega)] at st
        omega
  obtain ⟨l3, _, _, _, a4⟩ := key m (Nat.le_refl _)
  have last := smz_le (f := fun q => ind (∃ i, i < m ∧ (q : Int) = nth s i (s 101 y) ∧ ¬ act q)) (g := fun q => ind (¬ act q ∧ act y ∧ PBg s y ∧ CHl s y (q : Int))) M (fun q _ => ind_le (fun w => by
    obtain ⟨i, w1, w2, w3⟩ := w
    exact ⟨w3, ay, hb, by rw [w2]; exact chl i w1⟩))
  unfold icx
  omega
theorem Q_room (h : JGx s Q act cx anc) (hK : KJx s act IN) (hI : INC s N IN) (hu : ∀ y z c, IN y → IN z → CHl s y c → CHl s z c → y = z) (hM : s 99 12 ≤ (M : Int)) : smx (fun r => (Q r : Int)) M ≤ (M : Int) := by
  have k1 := smz_le (f := fun r => (Q r : Int)) (g := fun r => ind (act r) + icx s act M r) M (fun r _ => by
    have ic0 : 0 ≤ icx s act M r := by
      have := smz_le (f := fun _ => 0) (g := fun m => ind (¬ act m ∧ act r ∧ PBg s r ∧ CHl s r (m : Int))) M (fun _ _ => ind_r.1)
      rw [smz_0] at this
      exact this
    have a0 := ind_r (P := act r)
    by_cases q0 : Q r = 0
    · rw [q0]
      omega
    · obtain ⟨ar, b⟩ := h.2.2.2.2.2.2.1 r (by omega)
      rw [ind_t ar]
      by_cases hb : PBg s r
      · obtain ⟨l, l1, l2, l3⟩ := h.2.2.2.2.2.2.2.2.1 r ar hb
        have := ic_par h hK hI hu hM ar hb l1 l2
        have := hb.2
        omega
      · have := (b hb).1
        omega)
  have k2 : smx (fun r => icx s act M r) M ≤ smx (fun m => ind (¬ act m)) M := by
    unfold icx
    rw [smz_sw]
    refine smz_le M (fun m _ => ?_)
    by_cases am : act m
    · rw [ind_f (fun w => w am)]
      have := (smz_1 (P := fun r => ¬ act m ∧ act r ∧ PBg s r ∧ CHl s r (m : Int)) (fun i j w => absurd am w.1) M).2 (fun i _ w => w.1 am)
      omega
    · rw [ind_t am]
      exact (smz_1 (P := fun r => ¬ act m ∧ act r ∧ PBg s r ∧ CHl s r (m : Int)) (fun i j w v => hu i j _ (hK.1 i w.2.1) (hK.1 j v.2.1) w.2.2.2 v.2.2.2) M).1
  have k3 : smx (fun r => ind (act r)) M + smx (fun m => ind (¬ act m)) M = (M : Int) := by
    rw [← smz_a]
    have e := smz_b (f := fun i => ind (act i) + ind (¬ act i)) (a := 1) (b := 1) M (fun i _ => by
      by_cases c : act i
      · rw [ind_t c, ind_f (fun w => w c)]
        omega
      · rw [ind_f c, ind_t c]
        omega)
    omega
  rw [smz_a] at k1
  have k4 : smx (icx s act M) M ≤ smx (fun m => ind (¬ act m)) M := k2
  omega
end ROOM
