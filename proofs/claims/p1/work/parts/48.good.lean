theorem pz_i64 (x : Int32) : x.toInt64.toInt = x.toInt := by simp
/-- what stands behind the making of the two objects -/
def pz_st (G : hm_G) (E : hm_E) : Prop := pz_F G E ∧ G.2 = (1535, 815634) ∧ (∃ (g2 g3 : hm_G) (v : Int32), hm_ev tb_T tb_pg 30 19 [.ref 96] G g2 (some (some (.int v))) ∧ hm_ev tb_T tb_pg 30 121 [.ref 170] g2 g3 (some (some (.int v))) ∧ g3.2.1 ≤ 600002 ∧ g3.2.2 ≤ 7302232 ∧ g3.1[0]? = some E ∧ g2.1[170]? = some pz_M ∧ g2.1[0]? = some E) ∧ (∃ (g2 g3 : hm_G) (v : Int32), hm_ev tb_T tb_pg 30 80 [.ref 96] G g2 (some (some (.int v))) ∧ hm_ev tb_T tb_pg 30 160 [.ref 170] g2 g3 (some (some (.int v))) ∧ g3.2.1 ≤ 600002 ∧ g3.2.2 ≤ 7302232 ∧ g3.1[0]? = some E ∧ g2.1[170]? = some pz_M ∧ g2.1[0]? = some E) ∧ (∃ (g2 g3 : hm_G) (v : Int32), hm_ev tb_T tb_pg 30 18 [.ref 96, .int 0] G g2 (some (some (.int v))) ∧ hm_ev tb_T tb_pg 30 119 [.ref 170, .int 0] g2 g3 (some (some (.int v))) ∧ g3.2.1 ≤ 600002 ∧ g3.2.2 ≤ 7302232 ∧ g3.1[0]? = some E ∧ g2.1[170]? = some pz_M ∧ g2.1[0]? = some E)
theorem pz_chk_ok {S : hm_S} (h : pz_chk S = true) (E : hm_E) (hz : hz_ok S.2.2.2.1) : S.1 = 18 ∧ S.2.1 = [(3, .int 0), (2, .ref 170), (1, .ref 96), (0, .ref 0)] ∧ S.2.2.1 = [] ∧ pz_st (hz_g E S.2.2.2) E := by
  unfold pz_chk at h
  simp only [Bool.and_eq_true, decide_eq_true_eq] at h
  obtain ⟨c1, c2, c3, c4, c5, c6, c7, c8, c9, c10, c11, c12⟩ := h
  refine ⟨c1, c2, c3, ⟨List.getElem?_set_self (hz_len hz), (List.getElem?_set_ne (by decide)).trans (pz_ob_ok c5), (List.getElem?_set_ne (by decide)).trans (pz_ob_ok c6), ?_, (List.getElem?_set_ne (by decide)).trans (pz_ob_ok c8), ?_⟩, c4, pz_two_ok hz c10, pz_two_ok hz c11, pz_two_ok hz c12⟩
  · obtain ⟨l, h1, h2⟩ := pz_by_ok c7
    exact ⟨l, (List.getElem?_set_ne (by decide)).trans h1, h2⟩
  · obtain ⟨l, h1, h2⟩ := pz_by_ok c9
    exact ⟨l, (List.getElem?_set_ne (by decide)).trans h1, h2⟩
theorem pz_matched {a : Option hm_S} (h : pz_fin a = true) : ∃ S, a = some S ∧ pz_chk S = true := by
  cases a with
  | none => cases h
  | some S => exact ⟨S, rfl, h⟩
theorem pz_begun (E : hm_E) : ∃ G, pz_st G E ∧ ∀ gf out, hm_bo tb_T tb_pg 30 tb_M0 (18, [(3, .int 0), (2, .ref 170), (1, .ref 96), (0, .ref 0)], [], G) gf out → hm_bo tb_T tb_pg 30 tb_M0 (0, [(0, .ref 0)], [], hz_g E pz_S0.2.2.2) gf out := by
  obtain ⟨S, hS, hc⟩ := pz_matched pz_closed
  have hz0 : hz_ok pz_S0.2.2.2.1 := rfl
  obtain ⟨q1, q2⟩ := hz_go_n (E := E) (c2 := hm_call tb_T tb_pg 100000 30) (by decide) (hz_calls (by decide) 30) 10 pz_S0 _ hz0 hS
  obtain ⟨c1, c2, c3, c4⟩ := pz_chk_ok hc E q2
  refine ⟨hz_g E S.2.2.2, c4, fun gf out k => hm_bo_n 10 _ _ q1 ?_⟩
  rw [c1, c2, c3]
  exact k
theorem pz_ks {G : hm_G} {x0 x1 x2 x3 x4 x5 : Int32} (h : pz_st G (.inl (.int, [.int x0, .int x1, .int x2, .int x3, .int x4, .int x5]))) : pz_win (18, [(3, .int 0), (2, .ref 170), (1, .ref 96), (0, .ref 0)], [], G) := by
  obtain ⟨hF, hc, t2, t3, t1⟩ := h
  refine pz_sw hF.1 ?_
  by_cases hd : (x0 &&& 15).toInt < 0 ∨ 8 < (x0 &&& 15).toInt
  · exact pz_kd hF hc hd
  · have hk : (x0 &&& 15).toInt = 0 ∨ (x0 &&& 15).toInt = 1 ∨ (x0 &&& 15).toInt = 2 ∨ (x0 &&& 15).toInt = 3 ∨ (x0 &&& 15).toInt = 4 ∨ (x0 &&& 15).toInt = 5 ∨ (x0 &&& 15).toInt = 6 ∨ (x0 &&& 15).toInt = 7 ∨ (x0 &&& 15).toInt = 8 := by omega
    have hlt : ∀ y : Int32, x1 < y ↔ x1.toInt64 < y.toInt64 := fun y => by
      rw [Int32.lt_iff_toInt_lt, Int64.lt_iff_toInt_lt, pz_i64, pz_i64]
    have hgt : ∀ y : Int32, ¬ x1 ≤ y ↔ y.toInt64 < x1.toInt64 := fun y => by
      rw [Int32.le_iff_toInt_le, Int64.lt_iff_toInt_lt, pz_i64, pz_i64]
      omega
    rcases hk with e | e | e | e | e | e | e | e | e
    · rw [show x0 &&& 15 = 0 from Int32.toInt_inj.mp e]
      exact pz_k0 hF hc
    · rw [show x0 &&& 15 = 1 from Int32.toInt_inj.mp e]
      by_cases a1 : x1 < 0
      · exact pz_k1_lo hF hc a1 ((hlt 0).mp a1)
      · by_cases a2 : x1 ≤ 0
        · have a3 : x1 = 0 := by
            rw [Int32.lt_iff_toInt_lt] at a1
            rw [Int32.le_iff_toInt_le] at a2
            have : (0 : Int32).toInt = 0 := rfl
            exact Int32.toInt_inj.mp (by omega)
          subst a3
          exact pz_k1_eq hF hc t1
        · exact pz_k1_hi hF hc a1 a2 (fun q => a1 ((hlt 0).mpr q)) ((hgt 0).mp a2)
    · rw [show x0 &&& 15 = 2 from Int32.toInt_inj.mp e]
      exact pz_k2 hF hc t2
    · rw [show x0 &&& 15 = 3 from Int32.toInt_inj.mp e]
      exact pz_k3 hF hc t3
    · rw [show x0 &&& 15 = 4 from Int32.toInt_inj.mp e]
      exact pz_k4 hF hc
    · rw [show x0 &&& 15 = 5 from Int32.toInt_inj.mp e]
      exact pz_k5 hF hc
    · rw [show x0 &&& 15 = 6 from Int32.toInt_inj.mp e]
      exact pz_k6 hF hc
    · rw [show x0 &&& 15 = 7 from Int32.toInt_inj.mp e]
      exact pz_k7 hF hc
    · rw [show x0 &&& 15 = 8 from Int32.toInt_inj.mp e]
      by_cases a1 : x1 < 0
      · exact pz_k8_lo hF hc a1 ((hlt 0).mp a1)
      · by_cases a2 : x1 ≤ 12
        · exact pz_k8_ok hF hc a1 a2 (fun q => a1 ((hlt 0).mpr q)) (fun q => (hgt 12).mpr q a2)
        · exact pz_k8_hi hF hc a1 a2 (fun q => a1 ((hlt 0).mpr q)) ((hgt 12).mp a2)
theorem pz_all {G : hm_G} (xs : List Int32) (hxs : xs.length ≤ 6) (h : pz_st G (.inl (.int, xs.map .int))) : pz_win (18, [(3, .int 0), (2, .ref 170), (1, .ref 96), (0, .ref 0)], [], G) := by
  by_cases h6 : xs.length = 6
  · match xs, h6 with
    | [x0, x1, x2, x3, x4, x5], _ => exact pz_ks h
  · refine pz_exit (i := 0) h.1.1 ?_ (by rw [h.2.1]; decide) (by rw [h.2.1]; decide)
    rw [List.length_map]
    have h5 : xs.length = 0 ∨ xs.length = 1 ∨ xs.length = 2 ∨ xs.length = 3 ∨ xs.length = 4 ∨ xs.length = 5 := by omega
    rcases h5 with e | e | e | e | e | e <;> rw [e] <;> decide
/-- every script of one call at most -/
theorem pz_good (xs : List Int32) (hxs : xs.length ≤ 6) : tb_good xs := by
  obtain ⟨G, h1, h2⟩ := pz_begun (.inl (.int, xs.map .int))
  obtain ⟨gf, w1, w2, w3⟩ := pz_all xs hxs h1
  obtain ⟨K, n, w4⟩ := h2 _ _ w1
  exact ⟨K, 30, n, gf, w4, w2, w3, by decide, by decide⟩
