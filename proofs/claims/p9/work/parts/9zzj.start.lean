/-! The parts machine at the beginning. -/
section STARTX
variable {s : tab} {Q : Nat → Nat} {M N : Nat} {IN : Nat → Prop} {root : Nat} {c : Cxx}
theorem J_start (hz : SZx s) (h12 : s 99 12 ≤ 2000) (hE : EF s c root) (h143 : s 143 root = -1) (h144 : s 144 root = -1) (hL : ∀ L, L < 12 → s 152 L = -1 ∧ s 153 L = -1) (hQ : ∀ r, Q r = if r = root then 1 else 0) : JGx s Q (fun r => r = root) (fun _ => c) (fun _ _ => False) := by
  have nb : ¬ PBg s root := fun k => by
    have := k.2
    omega
  have noc : ∀ p, NoC s (fun r => r = root) p := fun p q hq e => by
    rw [hq, h143] at e
    omega
  have w0 : ∀ {k : Int} {L : Nat} {z : Int}, z = -1 → WTx s Q (fun r => r = root) k L z := fun e => ⟨by omega, fun q => by omega⟩
  refine ⟨hz, h12, fun p hp => ?_, fun p hp => .inl ?_, fun z p h => h.elim, fun p q hp hq hne => absurd (hp.trans hq.symm) hne, fun p hp => ?_, fun L h => ⟨w0 (hL L h).1, w0 (hL L h).2⟩, fun y hy hb => ?_, fun y _ _ q r hq hr _ _ => hq.trans hr.symm, fun p q hp hq _ _ => hp.trans hq.symm, fun y _ _ _ => noc y⟩
  · subst hp
    exact ⟨hE, PH_0 hE h144⟩
  · subst hp
    exact h143
  · rw [hQ] at hp
    by_cases e : p = root
    · exact ⟨e, fun _ => ⟨by rw [hQ, if_pos e], noc p⟩⟩
    · rw [if_neg e] at hp
      omega
  · subst hy
    exact absurd hb nb
theorem KJ_start (hI : INC s N IN) (h13 : (root : Int) = s 99 13) (h143 : s 143 root = -1) : KJx s (fun r => r = root) IN := by
  refine ⟨fun r hr => ?_, fun q y hq e => ?_, fun q hq _ => ?_⟩
  · have := hI.2.2.2.1
    rw [← h13, Int.toNat_natCast] at this
    rw [hr]
    exact this
  · rw [hq, h143] at e
    omega
  · rw [hq]
    exact h13
/-- the weight is small -/
theorem Mz_s {act : Nat → Prop} (hr : smx (fun r => (Q r : Int)) M ≤ (M : Int)) : Mzx s Q act M ≤ 2 * (M : Int) := by
  have k := smz_le (f := hwx s Q act) (g := fun r => (Q r : Int) + ind (act r)) M (fun r _ => by
    unfold hwx
    have := ind_r (P := 0 < Q r ∧ s 144 r < 0)
    omega)
  rw [smz_a] at k
  have a := (smz_b (f := fun r => ind (act r)) (a := 0) (b := 1) M (fun _ _ => ind_r)).2
  unfold Mzx
  omega
end STARTX
