/-! the counts of ways: bounds, and equal laws -/
section WC
variable {p n D : Int} {LN LR LN' LR' : Int → Int} {a m most : Int}
theorem HWc_b (v : Int → Int) : 0 ≤ HWc a p n D LN m LR v ∧ HWc a p n D LN m LR v ≤ 1 := by
  show 0 ≤ alH p n D LN (fun i w => LR (i * 256 + w)) m.toNat (fun x => rh a p (v x)) ∧ alH p n D LN (fun i w => LR (i * 256 + w)) m.toNat (fun x => rh a p (v x)) ≤ 1
  by_cases h : alw p n D LN (fun i w => LR (i * 256 + w)) (fun x => rh a p (v x)) m.toNat
  · rw [alH_t h]; decide
  · rw [alH_f h]; decide
theorem wyF_b (ha : a = 1 ∨ a = 2) (hp : 2 ≤ p) (hn : 0 ≤ n) (hm : 0 ≤ most) : -2 ≤ wyF a p n D LN m LR most ∧ wyF a p n D LN m LR most ≤ most := by
  unfold wyF
  by_cases h : most < p ^ (nsq n a).toNat
  · rw [if_pos h]; omega
  · rw [if_neg h, cnt_all (sqN_p hp) n.toNat _ (by omega)]
    have hS := sqN_p (s := a) hp
    have e := sm_01 (f := fun r => HWc a p n D LN m LR (fun x => if n - ((n.toNat : Nat) : Int) ≤ x ∧ x < n then r / sqN a p ^ (x - (n - ((n.toNat : Nat) : Int))).toNat % sqN a p else (fun _ => 0) x)) (fun r => HWc_b _) ((sqN a p).toNat ^ n.toNat)
    have e2 : (((sqN a p).toNat ^ n.toNat : Nat) : Int) = p ^ (nsq n a).toNat := by rw [← sq_pow ha hn, Int.natCast_pow, show (((sqN a p).toNat : Nat) : Int) = sqN a p by omega]
    rw [e2] at e
    exact ⟨Int.le_trans (by decide) e.1, Int.le_trans e.2 (by omega)⟩
theorem lvl_c {V : Int → q2} {W : Int} {d : Nat} {c e : Int → Int} (h : ∀ w, 0 ≤ w → w < W → c w = e w) : q2z p (lvl V n W d c) ↔ q2z p (lvl V n W d e) := by
  have k : q2E p (lvl V n W d c) (lvl V n W d e) := q2S_E W.toNat (fun j j0 j1 => q2E_of (by rw [h j j0 (by omega)]))
  exact ⟨fun q => q2z_iff.mpr (q2E_t (q2E_s k) (q2z_iff.mp q)), fun q => q2z_iff.mpr (q2E_t k (q2z_iff.mp q))⟩
theorem wyF_c (h : ∀ i, 0 ≤ i → i < m → LN i = LN' i ∧ ∀ w, 0 ≤ w → w < sW n D (LN i) → LR (i * 256 + w) = LR' (i * 256 + w)) : wyF a p n D LN m LR most = wyF a p n D LN' m LR' most := by
  have e : HWc a p n D LN m LR = HWc a p n D LN' m LR' := by
    funext v
    have t : alw p n D LN (fun i w => LR (i * 256 + w)) (fun x => rh a p (v x)) m.toNat ↔ alw p n D LN' (fun i w => LR' (i * 256 + w)) (fun x => rh a p (v x)) m.toNat := by
      refine ⟨fun q => (alw_iff _).mpr (fun k k0 k1 k2 => ?_), fun q => (alw_iff _).mpr (fun k k0 k1 k2 => ?_)⟩
      · have g := h k k0 (by omega)
        rw [← g.1]
        rw [← g.1] at k2
        exact (lvl_c g.2).mp ((alw_iff _).mp q k k0 k1 k2)
      · have g := h k k0 (by omega)
        have k3 := (alw_iff _).mp q k k0 k1 (by rw [← g.1]; exact k2)
        rw [← g.1] at k3
        exact (lvl_c g.2).mpr k3
    show alH p n D LN (fun i w => LR (i * 256 + w)) m.toNat (fun x => rh a p (v x)) = alH p n D LN' (fun i w => LR' (i * 256 + w)) m.toNat (fun x => rh a p (v x))
    by_cases q : alw p n D LN (fun i w => LR (i * 256 + w)) (fun x => rh a p (v x)) m.toNat
    · rw [alH_t q, alH_t (t.mp q)]
    · rw [alH_f q, alH_f (fun z => q (t.mpr z))]
  unfold wyF
  rw [e]
end WC
theorem i32_w {r : Int} (h : -2 ≤ r ∧ r ≤ 100000) : i32 r := ⟨by omega, by omega⟩
