/-! A turn of our own Work is one turn or two of the parts machine. -/
section EXE7
variable {t t1 t2 ts z : tab} {a b p : Nat} {u v x : Int} {Q : Nat → Nat} {act : Nat → Prop} {cx : Nat → Cxx} {anc : Nat → Nat → Prop}
/-- a value comes in -/
theorem po_e (hz : SZx (zp t)) (hq : QBx t) (hk : t 100 p = 407) (h3 : t 103 p ≠ (p : Int)) (hp : (p : Int) < t 99 12) (hg : 0 ≤ t 102 p ∧ t 102 p < 30) (h13 : t 142 13 = 0 ∨ t 142 13 = 1) (hx : 8 ≤ x ∧ x < 12) (hs : 0 < t (qin x) 2) :
    ∃ t2, wG 22 [(p : Int), x] t = some (some (0, t2)) ∧ (zp t2 = apw (Wrx (apw (rwx (zp t) p x).1 (zp t)) p).1 (apw (rwx (zp t) p x).1 (zp t)) ∧ (Wrx (apw (rwx (zp t) p x).1 (zp t)) p).2 = pux (t 143 p)) ∧ (rwx (zp t) p x).2 = pux (p : Int) ∧ ∃ ws, EXR t t2 (ws, pux (t 143 p)) := by
  obtain ⟨z, hz0⟩ : ∃ z, z = zp t := ⟨_, rfl⟩
  have zo : ∀ k j, k ≠ 147 → k ≠ 142 → z k j = t k j := fun k j h1 h2 => by
    rw [hz0]
    exact zp_o (by omega)
  have z7 : ∀ j, z 147 j = 0 := fun j => by rw [hz0]; exact if_pos (.inl rfl)
  obtain ⟨q, hq0⟩ : ∃ q, q = qin x := ⟨_, rfl⟩
  have hq1 : 154 + 2 * (x - 8).toNat = q := by rw [hq0]; rfl
  have q2 : 154 ≤ q ∧ q ≤ 160 := by omega
  have hb := (hq (x - 8).toNat (by omega)).1
  rw [hq1] at hb
  rw [← hq0] at hs
  have hW : rwx z p x = ([(q, 1, (t q 1 + 1) % 40), (q, 2, t q 2 - 1), (145, p, t (q + 1) (t q 1).toNat), (147, p, 1)], pux (p : Int)) := by
    unfold rwx
    rw [if_neg (by omega), if_pos hx.1, ← hq0, zo q 1 (by omega) (by omega), zo q 2 (by omega) (by omega), zo (q + 1) _ (by omega) (by omega), if_pos hs]
  obtain ⟨tq, htq⟩ : ∃ tq, tq = up2 (up2 t q 1 ((t q 1 + 1) % 40)) q 2 (t q 2 - 1) := ⟨_, rfl⟩
  obtain ⟨vv, hvv⟩ : ∃ vv, vv = t (q + 1) (t q 1).toNat := ⟨_, rfl⟩
  have oq : ∀ k j, k ≠ q → tq k j = t k j := fun k j h => by
    rw [htq]
    exact (if_neg (fun e => h e.1)).trans (if_neg (fun e => h e.1))
  have xq : EXR t tq ([(q, 1, (t q 1 + 1) % 40), (q, 2, t q 2 - 1)], []) := by
    rw [htq]
    exact EX_app (A := ([(q, 1, (t q 1 + 1) % 40)], [])) (EX_w (by omega) (by omega)) (EX_w (by omega) (by omega))
  have zq : zp tq = up2 (up2 z q 1 ((t q 1 + 1) % 40)) q 2 (t q 2 - 1) := by
    rw [htq, zp_u (by omega), zp_u (by omega), hz0]
  have hrm : qrm t ((q : Nat) : Int) = tq := by
    unfold qrm
    rw [Int.toNat_natCast, if_pos hs, rm_e (by omega) (by omega), imi_e (by omega), htq]
  have hrz : qrz t ((q : Nat) : Int) = vv := by
    unfold qrz
    rw [Int.toNat_natCast, if_pos hs, hvv]
  have hvx : vax t (t 103 p) = vax tq (tq 103 p) := by
    rw [oq 103 p (by omega)]
    unfold vax
    rw [oq 99 12 (by omega), oq 145 _ (by omega)]
  have hM : wG 22 [(p : Int), x] t = some (some (0, tlw (asw tq (tq 102 p) (vax tq (tq 103 p)) vv) p 0)) := by
    rw [wG_107]
    unfold wM107
    rw [if_neg (show ¬ x < 0 by omega), if_pos hx.2, if_neg (show ¬ x < 8 by omega), hq1, if_neg (show ¬ t q 2 ≤ 0 by omega), hrm, hrz, Int.toNat_natCast, hvx, oq 102 p (by omega)]
  have hz2 : SZx (zp tq) := fun r => by
    rw [show zp tq 111 r = zp t 111 r from by show tq 111 r = t 111 r; exact oq 111 r (by omega)]
    exact hz r
  have x2 : EXR tq (asw tq (tq 102 p) (vax tq (tq 103 p)) vv) (asx (zp tq) (tq 102 p) (vax tq (tq 103 p)) vv, []) := ex_as hz2 (by rw [oq 102 p (by omega)]; exact hg)
  have x3 : EXR (asw tq (tq 102 p) (vax tq (tq 103 p)) vv) (tlw (asw tq (tq 102 p) (vax tq (tq 103 p)) vv) p 0) (twx (zp tq) (p : Int) 0) := by
    have := ex_tl (t := asw tq (tq 102 p) (vax tq (tq 103 p)) vv) (p := (p : Int)) (v := 0)
    rw [tw_e (z := zp tq) (zp_e (fun k j => as_o) 99 12 (by omega) (by omega)) (zp_e (fun k j => as_o) 143 _ (by omega) (by omega))] at this
    exact this
  have pp : (twx (zp tq) (p : Int) 0).2 = pux (t 143 p) := by
    unfold twx
    rw [if_pos ⟨Int.natCast_nonneg _, by show (p : Int) < tq 99 12; rw [oq 99 12 (by omega)]; exact hp⟩, Int.toNat_natCast]
    show pux (tq 143 p) = _
    rw [oq 143 p (by omega)]
  have F := fg_e (z := zp tq) (b := p) (v := vv) (by show tq 100 p = 407; rw [oq 100 p (by omega)]; exact hk) (if_pos (.inl rfl)) (by show tq 103 p ≠ _; rw [oq 103 p (by omega)]; exact h3) (by show (p : Int) < tq 99 12; rw [oq 99 12 (by omega)]; exact hp)
  rw [← hz0, hW]
  dsimp only
  have s1e : apw [(q, 1, (t q 1 + 1) % 40), (q, 2, t q 2 - 1), (145, p, t (q + 1) (t q 1).toNat), (147, p, 1)] z = up2 (up2 (zp tq) 145 p vv) 147 p 1 := by
    rw [apw_cons, apw_cons, apw_cons, apw_cons, apw_nil, zq, hvv]
  rw [s1e]
  have X := EX_app xq (EX_app x2 x3)
  refine ⟨_, hM, ⟨?_, F.2.trans pp⟩, rfl, [(q, 1, (t q 1 + 1) % 40), (q, 2, t q 2 - 1)] ++ (asx (zp tq) (tq 102 p) (vax tq (tq 103 p)) vv ++ (twx (zp tq) (p : Int) 0).1), ?_⟩
  · rw [F.1, (X.1 h13).1]
    unfold cax
    dsimp only
    rw [apw_app, apw_app, ← (xq.1 h13).1]
    rfl
  · have e : (cax ([(q, 1, (t q 1 + 1) % 40), (q, 2, t q 2 - 1)], []) (cax (asx (zp tq) (tq 102 p) (vax tq (tq 103 p)) vv, []) (twx (zp tq) (p : Int) 0))) = (([(q, 1, (t q 1 + 1) % 40), (q, 2, t q 2 - 1)] ++ (asx (zp tq) (tq 102 p) (vax tq (tq 103 p)) vv ++ (twx (zp tq) (p : Int) 0).1) : wrl), pux (t 143 p)) := by
      unfold cax
      dsimp only
      rw [pp, List.nil_append, List.nil_append]
    rw [e] at X
    exact X
end EXE7
