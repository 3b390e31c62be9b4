/-! compile at the law's level, and the calls that change neither work. -/
section COMPC
variable {n C D : Nat} {r t : tab} {s s1 s2 : rS} {o o2 : hm_Out} {X Y : RO}
def wQ : EPx := (99, 16, relW, 96, 1, (fun _ => True), (fun _ => True))
theorem wq_R : inR wQ.2.2.2.1 wQ.2.2.2.2.1 := ⟨_, _, rfl, by decide⟩
theorem mrg_2 {c : Nat × Nat} (hD : D = 99 ∨ D = 115) (hR : RF r) (h96 : r 96 1 = (D : Int)) (h : ∀ k j, relW k j = true → inR (ph wQ D k) j → r (ph wQ D k) j = t k j) : EE wP D t (up2 (mrg wQ D t r) 142 0 (D : Int), c) := by
  have a : EE wQ D t (mrg wQ D t r, c) := mrg_EE (P := wQ) (C := D) (t := t) (r := r) ⟨hD, hR, h96, fun k j w => ⟨fun q => ok_W w q, h k j w⟩, trivial⟩ wq_R
  refine ⟨hD, RF_up a.2.1 rfl, (show up2 (mrg wQ D t r) 142 0 (D : Int) 142 0 = (D : Int) from up_self), fun k j w => ⟨ok_W w, ?_⟩, trivial⟩
  have b : mrg wQ D t r (ph wQ D k) j = t k j := (a.2.2.2.1 k j w).2
  by_cases z : 99 ≤ k ∧ k < 99 + 16
  · rw [show ph wQ D k = D + (k - 99) from if_pos z] at b
    rw [show ph wP D k = D + (k - 99) from if_pos z]
    exact (if_neg (by omega)).trans b
  · rw [show ph wQ D k = k from if_neg z] at b
    rw [show ph wP D k = k from if_neg z]
    refine Eq.trans (if_neg ?_) b
    rintro ⟨q1, q2⟩
    rw [q1, q2] at w
    exact absurd w (by decide)
theorem rW_C {k j : Nat} (h : relW k j = true) (h1 : 99 ≤ k ∧ k ≤ 114) : relC k j = true := by
  by_cases a : k = 99
  · subst a
    exact h
  by_cases b : k = 105
  · subst b
    exact h
  unfold relW at h
  rw [if_neg (by omega), if_neg (by omega), if_neg a, if_neg b, if_neg (by omega), if_pos (by omega)] at h
  unfold relC
  rw [if_neg (by omega), if_neg a, if_neg b, if_neg (by omega), if_neg (by omega)]
  simp only [Bool.or_eq_true, beq_iff_eq] at h ⊢
  omega
/-- the table with the circuit that was compiled -/
def tz (t9 r : tab) : tab := fun k j => if 99 ≤ k ∧ k ≤ 114 then t9 k j else if k = 144 ∧ 2000 ≤ j then 0 else r k j
theorem tz_c {t9 : tab} {k j : Nat} (h : 99 ≤ k ∧ k ≤ 114) : tz t9 r k j = t9 k j := if_pos h
theorem tz_o {t9 : tab} {k j : Nat} (h : ¬ (99 ≤ k ∧ k ≤ 114)) (h2 : ¬ (k = 144 ∧ 2000 ≤ j)) : tz t9 r k j = r k j := (if_neg h).trans (if_neg h2)
def QZ6 (D : Nat) (X : RO) (s5 : rS) : rS → hm_Out → Prop := fun s6 out => ∀ z t9, X = some (some (z, t9)) → MQx wP D 0 (wG 31 [] (tz t9 s5.1)) s6 out
theorem in_144 {j : Nat} (h : inR 144 j) : j < 2000 := by
  obtain ⟨y, m, h1, h2⟩ := h
  have e : tb_TG 144 = some (.inl .int, 2000) := rfl
  rw [e] at h1
  cases h1
  exact h2
theorem z_QZ {d : Nat} {s9 s5 : rS} (hD : D = 99 ∨ D = 115) (hq : MQx cQ D 0 X s9 (some none)) (hK : KI s5.1) (h96 : s5.1 96 1 = (D : Int)) (hf : ∀ k j, inR k j → 98 ≤ k → s5.1 k j = s9.1 k j) : ∀ K, pcr K d 78 [.ref 142, .ref D] s5 (QZ6 D X s5) := by
  intro K
  rcases hq with ⟨ob, z, t9, q1, q2, q3, q4⟩ | ⟨q1, _⟩
  · have hc : ∀ k j, relW k j = true → inR (ph wQ D k) j → s5.1 (ph wQ D k) j = tz t9 s5.1 k j := by
      intro k j w i
      by_cases a : 99 ≤ k ∧ k ≤ 114
      · have v : s9.1 (ph cQ D k) j = t9 k j := (q4.2.2.2.1 k j (rW_C w a)).2
        rw [show ph cQ D k = D + (k - 99) from if_pos ⟨a.1, by show k < 99 + 16; omega⟩] at v
        rw [show ph wQ D k = D + (k - 99) from if_pos ⟨a.1, by show k < 99 + 16; omega⟩] at i ⊢
        rw [tz_c a, ← v]
        exact hf _ _ i (by omega)
      · rw [show ph wQ D k = k from if_neg (fun q => a ⟨q.1, by have q2 : k < 99 + 16 := q.2; omega⟩)] at i ⊢
        refine (tz_o a (fun q => ?_)).symm
        rw [q.1] at i
        have := in_144 i
        omega
    have hE := mrg_2 (t := tz t9 s5.1) (c := s5.2) hD hK.1 h96 hc
    have h1 : pcr K d 78 [.ref 142, .ref D] s5 (MQx wP D 0 (wG 31 [] (tz t9 s5.1))) := fun g gf out hg hc hr => w_t78 (K := K) (C := D) (d := d) (mrg wQ D (tz t9 s5.1) s5.1, s5.2) (tz t9 s5.1) hE g gf out (mrg_rP hg) hc hr
    refine pcr_mono h1 (fun s6 o6 hm z2 t2 hX => ?_)
    rw [q3] at hX
    cases hX
    exact hm
  · cases q1
theorem c6_comp {d F : Nat} (s : rS) (hX : XI C D F s.1) (hrg : RGx s.1) (hL : LV6 n s.1) : cr (d + 246) 19 [.ref 96] s (XC2 C D F (MQx cQ D 0 (cG 55 [] (tcx D s.1))) (QZ6 D (cG 55 [] (tcx D s.1))) s) := zz_compile s hX (c_model hX.2.2.1 hX.1.1 hL.2.2.1 (c_scan0 hX.1 hrg hL.2.2.1)) (fun _ _ q _ hK h96 _ hf => z_QZ hX.2.2.1 q hK h96 hf)
theorem lk_R {k j : Nat} (h : LKk k j) : relR k j = true := by
  rcases h with ⟨h1, h2⟩ | ⟨h1, h2⟩
  · have : k = 181 ∨ k = 182 ∨ k = 183 ∨ k = 184 ∨ k = 185 := by omega
    rcases this with q | q | q | q | q <;> (rw [q]; rfl)
  · rw [h1, h2]
    rfl
/-- compiled in both -/
theorem LV6_a {F D1 : Nat} {s9 s5 s6 s8 : rS} {sx u9 : tab} {g : hm_G} (hL : LV6 n s.1) (hXI : XI C D F s.1) (hl : LO s1.1 s2.1) (hR1 : RF s1.1) (hR2 : RF s2.1) (hS2 : ∃ C D, SI C D s2.1) (hbb : ∀ j : Nat, (j : Int) < s2.1 97 1 → s2.1 98 j = s2.1 171 j) (m1 : s1.1 96 3 = 1) (a1 : s1.1 96 1 = (D : Int)) (a2 : s1.1 96 2 = (C : Int)) (a3 : s1.1 142 0 = (D : Int)) (p4 : EE cQ D sx s9) (f1 : ∀ k j, inR k j → 98 ≤ k → s5.1 k j = s9.1 k j) (f2 : ∀ k j, FWK D k → s5.1 k j = s.1 k j) (f6 : KI s5.1) (hz : MQx wP D 0 (wG 31 [] (tz sx s5.1)) s6 (some none)) (g1 : rP g s1.1) (g2 : rP g s6.1) (w6 : PGx sx u9) (q4 : EE rPP D1 u9 s8) (e20 : s2.1 170 20 = 1) (e17 : s2.1 170 17 = (D1 : Int)) (ek : ∀ k j, inR k j → D1 ≤ k ∧ k < D1 + 9 → s2.1 k j = s8.1 k j) (e52 : s2.1 170 52 = 0) (e55 : s2.1 170 55 = 1) (e5 : s2.1 205 0 = s2.1 D1 2) (e6 : s2.1 206 0 = 1) (e8 : s2.1 208 0 = 0) (e9 : s2.1 209 0 = 0) (v3 : ∀ j, j < 24 → s2.1 203 j = 0) (v6 : ∀ a, a < 6 → ∀ j, j < 64 → s2.1 (213 + a) j = 0) (vh : ∀ j, j < 8 → s2.1 1630 j = 0) : LV6 (n + 1) s2.1 := by
  have hC := hXI.2.1
  have hD := hXI.2.2.1
  have hCD : (C : Int) + (D : Int) = 214 := by
    have a := hL.2.2.2.1.1
    rw [hXI.2.2.2.2.1, hXI.2.2.2.2.2.1] at a
    exact a
  have hD1 : D1 = 177 ∨ D1 = 186 := q4.1
  obtain ⟨t6, x1, x2⟩ := rs_e (tz sx s5.1)
  have fr := x2.2.2.2.2.2
  have y1 : EE wP D t6 s6 := by
    rcases hz with ⟨ob, z, t7, y1, y2, y3, y4⟩ | ⟨y1, _⟩
    · rw [x1] at y3
      injection y3 with y3
      injection y3 with y3
      injection y3 with y5 y6
      rw [y6]
      exact y4
    · cases y1
  have y2 : EEr wP D t6 s1.1 := EE_bk y1 g1 g2 hR1 wv_R
  have y3 : EEr wP D t6 s2.1 := EEr_fr y2 hR2 (hl 142 0 (by omega)) (fun k j w => hl _ _ (w_p hD w).2)
  have ec : ∀ k j, relR k j = true → 177 ≤ k ∧ k ≤ 185 → inR (ph eP D1 k) j → s2.1 (ph eP D1 k) j = u9 k j := by
    intro k j w1 w2 i
    have v : s8.1 (ph rPP D1 k) j = u9 k j := (q4.2.2.2.1 k j w1).2
    rw [show ph rPP D1 k = D1 + (k - 177) from if_pos ⟨w2.1, by show k < 177 + 9; omega⟩] at v
    rw [ph_E hD1 w2] at i ⊢
    rw [← v]
    exact ek _ _ i (by omega)
  have hE : EEr eP D1 (emx D1 u9 s2.1) s2.1 := emx_E hD1 hR2 e17 ec
  have cc : ∀ j, relR 177 j = true → j < 19 → s2.1 D1 j = u9 177 j := fun j w hj => by
    have v := ec 177 j w (by omega)
    rw [ph_E hD1 (by omega), show D1 + (177 - 177) = D1 from rfl] at v
    refine v ?_
    rcases hD1 with q | q
    · rw [q]
      exact ⟨_, 19, rfl, hj⟩
    · rw [q]
      exact ⟨_, 19, rfl, hj⟩
  have sz : SZx sx := fun a ha => by
    have v : s9.1 (ph cQ D 111) a = sx 111 a := (p4.2.2.2.1 111 a rfl).2
    rw [show ph cQ D 111 = D + 12 from if_pos ⟨by decide, by decide⟩] at v
    have v2 : s5.1 (D + 12) a = s9.1 (D + 12) a := f1 _ _ (by
      rcases hD with q | q
      · rw [q]
        exact ⟨_, 6, rfl, ha⟩
      · rw [q]
        exact ⟨_, 6, rfl, ha⟩) (by omega)
    rw [← v, ← v2]
    rcases hD with q | q
    · rw [q]
      exact kb_to (a := 0) (b := 64) rfl (f6.2 111 a)
    · rw [q]
      exact kb_to (a := 0) (b := 64) rfl (f6.2 127 a)
  obtain ⟨K, M, k1, k2, hK⟩ := STK_of w6 sz
  obtain ⟨H, B, b9, l9, k9, c9, _, _, _, _, _, _, hRB, hRC, hLK⟩ := w6
  obtain ⟨C2, D2, hS⟩ := hS2
  have eC : C2 = D1 := by
    have a := hS.2.2.1
    rw [e17] at a
    omega
  subst eC
  obtain ⟨_, _, _, na, ⟨hn1, hn2⟩, hn3⟩ := SA_get hS (by rw [e20]; decide)
  have na1 : (na : Int) = sx 109 1 := by
    rw [← hn1, cc 5 rfl (by omega)]
    exact (hRC 1 (by omega)).1
  have st : STr K (emx C2 u9 s2.1) := by
    refine ⟨fun i => ?_, fun v hv hb => ?_, fun a ha hb => ?_⟩
    · rw [emx_c (k := 178) (j := i) rfl (by omega)]
      unfold cd
      rw [k2]
    · have hb := hb.1 hv
      rw [k1] at hb
      rw [emx_c (k := 179) (j := v) rfl (by omega), k1]
      exact hRB.1 v hb
    · have hb := hb.2 (by omega)
      rw [k1] at hb
      have h1 : (a : Int) < sx 109 1 := by omega
      have h2 := hRB.2 a h1
      have h3 : s2.1 (C2 + 3) a = u9 180 a := by
        have v := ec 180 a rfl (by omega)
        rw [ph_E hD1 (by omega), show C2 + (180 - 177) = C2 + 3 from rfl] at v
        refine v ?_
        rcases hD1 with q | q
        · rw [q]
          exact ⟨_, 6, rfl, ha⟩
        · rw [q]
          exact ⟨_, 6, rfl, ha⟩
      have h4 := hn3 a (by omega)
      rw [emx_c (k := 180) (j := a) rfl (by omega), k1]
      refine ⟨h2, ?_⟩
      rw [← h2, ← h3]
      exact h4
  have h44 : ∀ j, j < 2000 → s.1 144 j ≤ 2000000 * (n : Int) := fun j hj => by
    rcases hL.1.1.1 with m | m
    · have := hL.1.2 m j hj
      omega
    · obtain ⟨C3, D3, K3, M3, t3, e3, hw⟩ := hL.2.2.2.2 m
      rw [w_get hw.2.1 (k := 144) (j := j) rfl (by omega) ⟨_, _, rfl, hj⟩]
      exact hw.2.2.2.2.1.2.2.1 j
  have m3 : s2.1 96 3 = 1 := (hl 96 3 (by omega)).trans m1
  have hB : BTW K M (2000000 * ((n + 1 : Nat) : Int)) t6 (emx C2 u9 s2.1) := by
    refine bt_0 (t := tz sx s5.1) (fun k j w => ?_) st (fun j => ?_) x2 ?_ ?_ ?_ ?_ ?_ ?_ (fun j hj => ?_) (fun a ha j hj => ?_) (fun j hj => ?_)
    · rw [fr k j (by omega) (by omega), tz_c w, k1]
    · rw [fr 144 j (by omega) (by omega)]
      by_cases c : 2000 ≤ j
      · rw [show tz sx s5.1 144 j = 0 from (if_neg (by omega)).trans (if_pos ⟨rfl, c⟩)]
        omega
      · rw [tz_o (by omega) (by omega), f2 144 j (by unfold FWK; omega)]
        have := h44 j (by omega)
        omega
    · rw [emx_o (by omega)]; exact e52
    · rw [emx_o (by omega)]; exact e55
    · rw [emx_o (by omega), e5, cc 2 rfl (by omega), k2]
    · rw [emx_o (by omega)]; exact e6
    · rw [emx_o (by omega)]; exact e8
    · rw [emx_o (by omega)]; exact e9
    · rw [emx_o (by omega)]; exact v3 j hj
    · rw [emx_o (by omega)]; exact v6 a ha j hj
    · rw [emx_o (by omega)]; exact vh j hj
  refine ⟨⟨⟨.inr m3, by rw [m3, e20]⟩, fun q j hj => by omega⟩, hbb, fun j hj => ?_, ⟨?_, ?_⟩, fun _ => ⟨D, C2, K, M, t6, emx C2 u9 s2.1, (hl 96 1 (by omega)).trans a1, y3, hE, hK, hB, fun c hc => ?_, ?_, ?_, ?_⟩⟩
  · rw [hl 140 j (by omega), w_get y2 (k := 140) (j := j) rfl (by omega) ⟨_, _, rfl, hj⟩, fr 140 j (by omega) (by omega), tz_o (by omega) (by omega), f1 140 j ⟨_, _, rfl, hj⟩ (by omega)]
    have v : s9.1 140 j = sx 140 j := EE_get p4 (k := 140) (q := 140) rfl rfl
    rw [v]
    exact p4.2.2.2.2 j
  · rw [hl 96 1 (by omega), hl 96 2 (by omega), a1, a2]
    omega
  · rw [hl 96 1 (by omega), hl 142 0 (by omega), a1, a3]
  · rw [k1, k2]
    exact hRC c hc
  · rw [k2]
    exact cc 2 rfl (by omega)
  · rw [k2]
    exact cc 7 rfl (by omega)
  · refine ⟨by rw [k2]; exact cc 8 rfl (by omega), by rw [k1, k2]; exact hLK.2, fun k j q i => ?_⟩
    rw [k2]
    exact ec k j (lk_R q) (by unfold LKk at q; omega) i
theorem LV6_c {F C1 D1 : Nat} (hL : LV6 n s.1) (hXI : XI C D F s.1) (hx : XC2 C D F (MQx cQ D 0 X) (QZ6 D X) s s1 o) (hS1 : SI C1 D1 s1.1) (hm : MC2 C1 D1 (MQx rPP D1 3 Y) s1 s2 o2) (hop : ∀ v, Y = some v → OGx X v) : LV6 (n + 1) s2.1 := by
  obtain ⟨hx1, hx2⟩ := hx
  obtain ⟨hm1, s8, b, hq, hb⟩ := hm
  have hi : HI s.1 s1.1 := hx1.2.2.2.1
  have hl : LO s1.1 s2.1 := hm1.2.2.2.1
  have hR2 : RF s2.1 := hm1.2.2.1
  have hR1 : RF s1.1 := by
    obtain ⟨C5, D5, E5, h5⟩ := hx1.2.2.1
    exact h5.1.1
  have t97 : s1.1 97 1 = 0 := hx1.2.2.2.2
  have e97 : s2.1 97 1 = 0 := (hl 97 1 (by omega)).trans t97
  have hbb : ∀ j : Nat, (j : Int) < s2.1 97 1 → s2.1 98 j = s2.1 171 j := fun j hj => by
    rw [e97] at hj
    omega
  have hC := hXI.2.1
  have hD := hXI.2.2.1
  have hC1 := SI_C hS1
  have hCD : (C : Int) + (D : Int) = 214 := by
    have a := hL.2.2.2.1.1
    rw [hXI.2.2.2.2.1, hXI.2.2.2.2.2.1] at a
    exact a
  have hb01 : 0 ≤ b ∧ b ≤ 1 := by
    rcases hb with ⟨a, _⟩ | ⟨a, _⟩ <;> omega
  rcases hq with ⟨ob, z, u9, q1, q2, q3, q4⟩ | ⟨q1, _⟩
  · cases q1
    have q2 : some (vi b) = some (vi z) ∧ 0 ≤ z ∧ z ≤ 1 := q2
    have hbz : b = z := vi_inj hb01 q2.2 (Option.some.inj q2.1)
    obtain ⟨z9, u8, w1, w2⟩ := hop _ q3
    injection w1 with w1
    injection w1 with w7 w8
    rw [← w8] at w2
    rcases hx2 with ⟨m1, ⟨a1, a2, a3⟩, s9, n1, n2, s5, f1, f2, f3, f4, f5, f6, s6, c6, hz, g, g1, g2⟩ | ⟨m1, ⟨a1, a2, a3⟩, fr, s9, o9, n1, n3, n4⟩ | ⟨m1, s9, n1, n2⟩
    · rcases n1 with ⟨ob2, z2, t9, p1, p2, p3, p4⟩ | ⟨p1, _⟩
      · have p5 : s9.1 131 3 = t9 131 3 := EE_get p4 (k := 131) (q := 131) rfl rfl
        rcases w2 with ⟨w3, sx, w4, w5, w6⟩ | ⟨w3, w4 | ⟨sx, w4, w5⟩⟩
        · have h6 := hz _ _ w4
          rw [w4] at p3
          injection p3 with p3
          injection p3 with p3
          injection p3 with p6 p7
          rw [← p7] at p4
          rcases hb with ⟨b0, _⟩ | ⟨_, e20, e17, e18, ek, e52, e55, e5, e6, e8, e9, v3, v6, vh⟩
          · omega
          · exact LV6_a hL hXI hl hR1 hR2 hm1.2.2.2.2.1 hbb m1 a1 a2 a3 p4 f1 f2 f6 h6 g1 g2 w6 q4 e20 e17 ek e52 e55 e5 e6 e8 e9 v3 v6 vh
        · rw [w4] at p3
          cases p3
        · rw [w4] at p3
          injection p3 with p3
          injection p3 with p3
          injection p3 with p6 p7
          rw [← p7] at p5
          omega
      · cases p1
    · rcases w2 with ⟨w3, sx, w4, w5, w6⟩ | ⟨w3, w4⟩
      · exfalso
        rcases n1 with ⟨ob2, z2, t9, p1, p2, p3, p4⟩ | ⟨p1, p2, _⟩
        · have p5 : s9.1 131 3 = t9 131 3 := EE_get p4 (k := 131) (q := 131) rfl rfl
          rw [w4] at p3
          injection p3 with p3
          injection p3 with p3
          injection p3 with p6 p7
          rw [← p7] at p5
          rcases n4 with ⟨n5, n6⟩ | ⟨n5, n6⟩
          · omega
          · rw [n5] at p1
            cases p1
        · rw [w4] at p2
          cases p2
      · have hb0 : b = 0 := by omega
        rcases hb with ⟨_, kf⟩ | ⟨b1, _⟩
        · refine LV6_q hL (fun k j hk => ?_) (fun C5 h5 k j hk => ?_) (fun j hj => ?_) ?_ (fun D5 h5 k j hk => ?_) hR2 hbb
          · rcases hk with ⟨rfl, rfl | rfl | rfl⟩ | hk
            · rw [hl 96 1 (by omega), a1]
              exact hXI.2.2.2.2.1.symm
            · rw [hl 96 2 (by omega), a2]
              exact hXI.2.2.2.2.2.1.symm
            · rw [hl 96 3 (by omega), m1]
            · rw [hl k j (by omega)]
              exact fr k j (by unfold FWK; omega)
          · have e : C5 = C := by
              have := hXI.2.2.2.2.1
              omega
            rw [hl k j (by omega)]
            exact fr k j (by unfold FWK; omega)
          · rw [hl 140 j (by omega), n3 j hj]
            rcases n1 with ⟨ob2, z2, t9, p1, p2, p3, p4⟩ | ⟨p1, p2, p3⟩
            · rw [EE_get p4 (k := 140) (q := 140) rfl rfl]
              exact p4.2.2.2.2 j
            · exact p3.2 j
          · rw [kf 170 20 (by unfold KPF; omega)]
            exact hi 170 20 (by omega)
          · have e : D5 = C1 := by
              have a := hS1.2.2.1
              rw [hi 170 17 (by omega)] at a
              omega
            unfold KQ at hk
            rw [kf k j (by unfold KPF; omega)]
            exact hi k j (by omega)
        · omega
    · exfalso
      rcases n1 with ⟨ob2, z2, t9, p1, p2, p3, p4⟩ | ⟨p1, p2, p3⟩
      · cases p1
      · have : 0 ≤ s9.1 131 2 := p3.1
        omega
  · cases q1
/-- calls that change neither circuit nor its work -/
theorem LV6_u (hL : LV6 n r) (hR : RF r) : LV6 (n + 1) r := LV6_q hL (fun _ _ _ => rfl) (fun _ _ _ _ _ => rfl) hL.2.2.1 rfl (fun _ _ _ _ _ => rfl) hR hL.2.1
theorem LV6_h {F C1 D1 : Nat} (hL : LV6 n s.1) (hXI : XI C D F s.1) (hS : SI C1 D1 s.1) (h1 : HL s.1 s1.1) (h2 : LH s1.1 s2.1) (hle : s1.1 97 1 ≤ s.1 97 1) (hR : RF s2.1) : LV6 (n + 1) s2.1 := by
  have hC := hXI.2.1
  have hC1 := SI_C hS
  have e1 := hXI.2.2.2.2.1
  have e2 := hS.2.2.1
  have a : ∀ k j, ¬ (k = 97 ∧ j = 1) → ¬ (k = 170 ∧ j = 1) → s2.1 k j = s.1 k j := fun k j w1 w2 => (h2 k j w2).trans (h1 k j w1)
  refine LV6_q hL (fun k j hk => a k j (by omega) (by omega)) (fun C5 h5 k j hk => a k j (by omega) (by omega)) (fun j hj => ?_) (a 170 20 (by omega) (by omega)) (fun D5 h5 k j hk => ?_) hR (fun j hj => ?_)
  · rw [a 140 j (by omega) (by omega)]
    exact hL.2.2.1 j hj
  · unfold KQ at hk
    exact a k j (by omega) (by omega)
  · rw [h2 97 1 (by omega)] at hj
    rw [a 98 j (by omega) (by omega), a 171 j (by omega) (by omega)]
    exact hL.2.1 j (by omega)
theorem LV6_f {F C1 D1 : Nat} {A : Nat → Int} (hL : LV6 n s.1) (hXI : XI C D F s.1) (hS : SI C1 D1 s.1) (hR : RF s2.1) (c3 : s1.1 170 1 = s.1 97 1) (t0 : 0 ≤ s.1 97 1) (n1 : s1.1 97 1 = s.1 97 1 + 20) (f1 : ∀ i j, ¬ (i = 98 ∧ (s.1 97 1).toNat ≤ j) → ¬ (i = 97 ∧ j = 1) → s1.1 i j = s.1 i j) (y1 : ∀ k : Nat, k < 20 → s1.1 98 ((s.1 97 1).toNat + k) = byt (A k) (24 - 8 * ((k % 4 : Nat) : Int))) (f2 : ∀ i j, ¬ (i = 171 ∧ (s1.1 170 1).toNat ≤ j) → ¬ (i = 170 ∧ j = 1) → s2.1 i j = s1.1 i j) (y2 : ∀ k : Nat, k < 20 → s2.1 171 ((s1.1 170 1).toNat + k) = byt (A k) (24 - 8 * ((k % 4 : Nat) : Int))) : LV6 (n + 1) s2.1 := by
  have hC := hXI.2.1
  have hC1 := SI_C hS
  have e1 := hXI.2.2.2.2.1
  have e2 := hS.2.2.1
  rw [c3] at f2 y2
  have a : ∀ k j, k ≠ 97 → k ≠ 98 → k ≠ 171 → ¬ (k = 170 ∧ j = 1) → s2.1 k j = s.1 k j := fun k j w1 w2 w3 w4 => (f2 k j (by omega) w4).trans (f1 k j (by omega) (by omega))
  have e97 : s2.1 97 1 = s.1 97 1 + 20 := (f2 97 1 (by omega) (by omega)).trans n1
  refine LV6_q hL (fun k j hk => a k j (by omega) (by omega) (by omega) (by omega)) (fun C5 h5 k j hk => a k j (by omega) (by omega) (by omega) (by omega)) (fun j hj => ?_) (a 170 20 (by omega) (by omega) (by omega) (by omega)) (fun D5 h5 k j hk => ?_) hR (fun j hj => ?_)
  · rw [a 140 j (by omega) (by omega) (by omega) (by omega)]
    exact hL.2.2.1 j hj
  · unfold KQ at hk
    exact a k j (by omega) (by omega) (by omega) (by omega)
  · by_cases c : (s.1 97 1).toNat ≤ j
    · have w1 := y1 (j - (s.1 97 1).toNat) (by omega)
      have w2 := y2 (j - (s.1 97 1).toNat) (by omega)
      rw [show (s.1 97 1).toNat + (j - (s.1 97 1).toNat) = j by omega] at w1 w2
      rw [f2 98 j (by omega) (by omega), w1, w2]
    · rw [f2 98 j (by omega) (by omega), f1 98 j (by omega) (by omega), f2 171 j (by omega) (by omega), f1 171 j (by omega) (by omega)]
      exact hL.2.1 j (by omega)
end COMPC
section LAWC
variable {n c : Nat} {X : tab → RO} {P : Int → Prop} {s s1 s2 : rS} {o : hm_Out}
theorem W6_1 (h : W6 n X 1 s s1 o) : ∃ z : Int, o = some (some (vi z)) ∧ i32 z := by
  rcases h with ⟨_, C, t, h1, h2, ob, z, t1, h3, h4, h5, h6⟩ | ⟨_, C, D, K, M, t, e, h1, ob, z, t1, h3, h4, h5, h6⟩
  · exact ⟨z, by rw [h3, (rt_1 h4).1], (rt_1 h4).2⟩
  · exact ⟨z, by rw [h3, (rt_1 h4).1], (rt_1 h4).2⟩
theorem W6_2 (h : W6 n X 2 s s1 o) : ∃ z : Int, o = some (some (vl z)) ∧ i64 z := by
  rcases h with ⟨_, C, t, h1, h2, ob, z, t1, h3, h4, h5, h6⟩ | ⟨_, C, D, K, M, t, e, h1, ob, z, t1, h3, h4, h5, h6⟩
  · exact ⟨z, by rw [h3, (rt_2 h4).1], (rt_2 h4).2⟩
  · exact ⟨z, by rw [h3, (rt_2 h4).1], (rt_2 h4).2⟩
theorem X4_XP (h : XP4 c P s s2 o) : XP c P s s2 o := ⟨h.1, h.2.1, h.2.2.1, fun k j hk => h.2.2.2.1 k j (.inl hk), h.2.2.2.2⟩
theorem XL_XP (h : XPL c P s s2 o) : XP c P s s2 o := ⟨h.1, h.2.1, h.2.2.1, fun k j hk => h.2.2.2.1 k j (by omega), h.2.2.2.2⟩
theorem M2_MP (h : MJ2 c P s s2 o) : MP c P s s2 o := ⟨h.1, h.2.1, h.2.2.1, fun k j hk => h.2.2.2.1 k j (.inl hk), h.2.2.2.2⟩
theorem M3_MP (h : MJ3 c P s s2 o) : MP c P s s2 o := ⟨h.1, h.2.1, h.2.2.1, fun k j hk => h.2.2.2.1 k j (by omega), h.2.2.2.2⟩
end LAWC
section LAWD
variable {M : hm_M} {pc row q d : Nat} {E : hm_E} {lv : List (Nat × Value)} {st : List Value} {s : rS} {Q : rS → hm_Out → Prop} {a : Int}
theorem wv_lcme (ho : (hm_Mi M)[pc]? = some (some (.lcmp, 1, 6, row))) (kk : wv q E d M (pc + 1) lv (vi 0 :: st) s Q) : wv q E d M pc lv (vl a :: vl a :: st) s Q := by
  have key : lg_cmp (Int64.ofInt a) (Int64.ofInt a) = Int32.ofInt 0 := by
    unfold lg_cmp
    simp <;> rfl
  refine wv_go (fun call g => ?_) kk
  rw [hs_of ho]
  show some (Sum.inl (pc + 1, lv, Value.int (lg_cmp (Int64.ofInt a) (Int64.ofInt a)) :: st, g)) = _
  rw [key]
theorem wv_if1t {c : ClassFile.Cond} {off : Int} {t : Nat} (ho : (hm_Mi M)[pc]? = some (some (.ifCond c off, 3, 7, row))) (ht : hm_tg pc off = some t) (ha : i32 a) (hb : cmpI c a 0) (kk : wv q E d M t lv st s Q) : wv q E d M pc lv (vi a :: st) s Q := wv_go (fun call g => hs_if1 (b := true) ho ht ((c1_I ha).mpr hb)) kk
end LAWD
