/-! points and modules (model) -/
theorem i64_pp {a b c d : Int} (ha : 0 ≤ a ∧ a < 97) (hb : 0 ≤ b ∧ b < 97) (hc : 0 ≤ c ∧ c < 97) (hd : 0 ≤ d ∧ d < 97) : i64 (a * b + c * d) := by
  have h1 := m97 ha hb
  have h2 := m97 hc hd
  exact ⟨by omega, by omega⟩
theorem i64_p {a b : Int} (ha : 0 ≤ a ∧ a < 97) (hb : 0 ≤ b ∧ b < 97) : i64 (a * b) := by
  have h1 := m97 ha hb
  exact ⟨by omega, by omega⟩
theorem i32_97 {a : Int} (ha : 0 ≤ a ∧ a < 97) : i32 a := ⟨by omega, by omega⟩
def gv4 (g : Int → Int) (x : Int) : q2 := (g (4 * x), g (4 * x + 1), g (4 * x + 2), g (4 * x + 3))
def sq4 (f : Int → Int) : q2 := (f 0, f 1, f 2, f 3)
section MWC
variable {p n D : Int}
theorem spr_st {g : Int → Int} {w d j : Int} (hn : 0 ≤ n) (hj : 0 ≤ j ∧ j < d) (hd : d ≤ D) : spr g n (j + 1).toNat (w / sW n D (d - (j + 1))) = spr g n j.toNat (w / sW n D (d - j)) * g (w / sW n D (d - 1 - j) % n) := by
  rw [show (j + 1).toNat = j.toNat + 1 by omega]
  show spr g n j.toNat (w / sW n D (d - (j + 1)) / n) * g (w / sW n D (d - (j + 1)) % n) = _
  rw [show d - (j + 1) = d - 1 - j by omega, ← hd_s hn (show 0 ≤ d - 1 - j ∧ d - 1 - j < D by omega), show d - 1 - j + 1 = d - j by omega]
theorem wpr_st {V : Int → q2} {w d j : Int} (hn : 0 ≤ n) (hj : 0 ≤ j ∧ j < d) (hd : d ≤ D) : wpr V n (j + 1).toNat (w / sW n D (d - (j + 1))) = q2m (wpr V n j.toNat (w / sW n D (d - j))) (V (w / sW n D (d - 1 - j) % n)) := by
  rw [show (j + 1).toNat = j.toNat + 1 by omega]
  show q2m (wpr V n j.toNat (w / sW n D (d - (j + 1)) / n)) (V (w / sW n D (d - (j + 1)) % n)) = _
  rw [show d - (j + 1) = d - 1 - j by omega, ← hd_s hn (show 0 ≤ d - 1 - j ∧ d - 1 - j < D by omega), show d - 1 - j + 1 = d - j by omega]
theorem lvl_1 (g c : Int → Int) (W : Int) (d : Nat) : lvl (fun x => rh 1 p (g x)) n W d c = (sm (fun w => c w * spr g n d w) W.toNat, 0, 0, sm (fun w => c w * spr g n d w) W.toNat) := by
  unfold lvl
  have key : ∀ m : Nat, q2S (fun w => q2s (c w) (wpr (fun x => rh 1 p (g x)) n d w)) m = (sm (fun w => c w * spr g n d w) m, 0, 0, sm (fun w => c w * spr g n d w) m) := by
    intro m
    induction m with
    | zero => rfl
    | succ m ih =>
      show q2a (q2S (fun w => q2s (c w) (wpr (fun x => rh 1 p (g x)) n d w)) m) (q2s (c m) (wpr (fun x => rh 1 p (g x)) n d m)) = (sm (fun w => c w * spr g n d w) m + c m * spr g n d m, 0, 0, sm (fun w => c w * spr g n d w) m + c m * spr g n d m)
      rw [ih, wpr_1]
      apply q2x <;> simp only [q2a, q2s] <;> omega
  exact key W.toNat
theorem mp_fin {g c : Int → Int} {W s : Int} {d : Nat} (hs : 0 ≤ s ∧ s < p) (h : mE p s (sm (fun w => c w * spr g n d w) W.toNat)) : s = 0 ↔ q2z p (lvl (fun x => rh 1 p (g x)) n W d c) := by
  rw [lvl_1]
  have e := mE_mod h
  rw [Int.emod_eq_of_lt hs.1 hs.2] at e
  unfold q2z
  dsimp only
  rw [← e]
  exact ⟨fun q => ⟨q, Int.zero_emod p, Int.zero_emod p, q⟩, fun q => q.1⟩
theorem dig4 {y : Int} (hp : 2 ≤ p) : rh 2 p (y % (p * p * p * p)) = (y % p, y / p % p, y / p / p % p, y / p / p / p % p) := by
  have h0 : 0 < p := by omega
  have h1 : 0 < p * p := Int.mul_pos h0 h0
  have h2 : 0 < p * p * p := Int.mul_pos h1 h0
  have e1 : y % (p * p * p * p) / p = y / p % (p * p * p) := by rw [show p * p * p * p = p * (p * p * p) by grind]; exact em_ed h0 h2
  have e2 : y / p % (p * p * p) / p = y / p / p % (p * p) := by rw [show p * p * p = p * (p * p) by grind]; exact em_ed h0 h1
  have e3 : y / p / p % (p * p) / p = y / p / p / p % p := em_ed h0 h0
  unfold rh
  rw [if_neg (by decide), e1, e2, e3, Int.emod_emod_of_dvd y ⟨p * p * p, by grind⟩, Int.emod_emod_of_dvd (y / p) ⟨p * p, by grind⟩, Int.emod_emod_of_dvd (y / p / p) ⟨p, rfl⟩, Int.emod_emod_of_dvd _ (Int.dvd_refl p)]
theorem pow4 {x : Int} (hx : 0 ≤ x) : (p * p * p * p) ^ x.toNat = p ^ (4 * x).toNat ∧ p ^ (4 * x + 1).toNat = p ^ (4 * x).toNat * p ∧ p ^ (4 * x + 2).toNat = p ^ (4 * x).toNat * p * p ∧ p ^ (4 * x + 3).toNat = p ^ (4 * x).toNat * p * p * p := by
  refine ⟨?_, ?_, ?_, ?_⟩
  · rw [show (4 * x).toNat = 4 * x.toNat by omega, Int.pow_mul]
    congr 1
    rw [Int.pow_succ, Int.pow_succ, Int.pow_succ, Int.pow_succ, Int.pow_zero, Int.one_mul]
  · rw [show (4 * x + 1).toNat = (4 * x).toNat + 1 by omega, Int.pow_succ]
  · rw [show (4 * x + 2).toNat = (4 * x).toNat + 2 by omega, Int.pow_succ, Int.pow_succ]
  · rw [show (4 * x + 3).toNat = (4 * x).toNat + 3 by omega, Int.pow_succ, Int.pow_succ, Int.pow_succ]
/-- what a way gives, as squares -/
theorem gv_2 {g : Int → Int} {way x : Int} (hp : 2 ≤ p) (hx : 0 ≤ x ∧ x < n) (hw : 0 ≤ way) (hg : ∀ k, 0 ≤ k → k < 4 * n → g k = way / p ^ k.toNat % p) : gv4 g x = rh 2 p (way / sqN 2 p ^ x.toNat % sqN 2 p) := by
  have eS : sqN 2 p = p * p * p * p := by unfold sqN; rw [if_neg (by decide)]
  have hq := pow4 (p := p) hx.1
  have hP : 0 ≤ p ^ (4 * x).toNat := Int.pow_nonneg (by omega)
  have hPp := Int.mul_nonneg hP (show 0 ≤ p by omega)
  have hPpp := Int.mul_nonneg hPp (show 0 ≤ p by omega)
  rw [eS, dig4 hp, hq.1]
  unfold gv4
  rw [hg _ (by omega) (by omega), hg _ (by omega) (by omega), hg _ (by omega) (by omega), hg _ (by omega) (by omega), hq.2.1, hq.2.2.1, hq.2.2.2, ← Int.ediv_ediv_of_nonneg hPpp, ← Int.ediv_ediv_of_nonneg hPp, ← Int.ediv_ediv_of_nonneg hP]
/-- the count over all numbers of ways -/
theorem wy_all {a : Int} {LN LR : Int → Int} {m : Int} (hp : 2 ≤ p) (hn : 0 ≤ n) {f : Int → Int} {N : Nat} (hN : (N : Int) = sqN a p ^ n.toNat) (hf : ∀ r : Int, 0 ≤ r → r < N → f r = HWc a p n D LN m LR (fun x => if 0 ≤ x ∧ x < n then r / sqN a p ^ x.toNat % sqN a p else 0)) : cnt (sqN a p) n (HWc a p n D LN m LR) n.toNat (fun _ => 0) = sm f N := by
  have hS := sqN_p (s := a) hp
  rw [cnt_all hS n.toNat _ (by omega)]
  have e : (sqN a p).toNat ^ n.toNat = N := by
    have h1 : (((sqN a p).toNat ^ n.toNat : Nat) : Int) = sqN a p ^ n.toNat := by rw [Int.natCast_pow, show (((sqN a p).toNat : Nat) : Int) = sqN a p by omega]
    omega
  rw [e]
  refine sm_ext _ (fun r r0 r1 => ?_)
  rw [hf r r0 r1]
  show HWc a p n D LN m LR _ = _
  congr 1
  funext x
  rw [show n - ((n.toNat : Nat) : Int) = 0 by omega, Int.sub_zero]
/-- the laws looked through, one by one -/
def okL (p n D : Int) (LN LR : Int → Int) (V : Int → q2) (k : Int) (ok : Int) : Prop := (ok = 1 ∧ alw p n D LN (fun i w => LR (i * 256 + w)) V k.toNat) ∨ (ok = 0 ∧ ∀ j : Nat, k ≤ j → ¬ alw p n D LN (fun i w => LR (i * 256 + w)) V j)
theorem ok_0' {LN LR : Int → Int} {V : Int → q2} : okL p n D LN LR V 0 1 := .inl ⟨rfl, trivial⟩
theorem ok_s {LN LR : Int → Int} {V : Int → q2} {k r : Int} (hk : 0 ≤ k) (h : okL p n D LN LR V k 1) (hr : (r = 1 ∧ (0 < LN k → q2z p (lvl V n (sW n D (LN k)) (LN k).toNat (fun w => LR (k * 256 + w))))) ∨ (r = 0 ∧ ¬ (0 < LN k → q2z p (lvl V n (sW n D (LN k)) (LN k).toNat (fun w => LR (k * 256 + w)))))) : okL p n D LN LR V (k + 1) r := by
  have h := h.resolve_right (by omega)
  rcases hr with ⟨r1, r2⟩ | ⟨r1, r2⟩
  · refine .inl ⟨r1, (alw_iff _).mpr (fun j a b c => ?_)⟩
    by_cases e : j = k
    · subst e; exact r2 c
    · exact (alw_iff _).mp h.2 j a (by omega) c
  · refine .inr ⟨r1, fun j a g => r2 (fun c => (alw_iff _).mp g k hk (by omega) c)⟩
theorem ok_f {LN LR : Int → Int} {V : Int → q2} {k ok : Int} {m : Int} (h : okL p n D LN LR V k ok) (hk : k = m ∨ (ok = 0 ∧ k ≤ m)) (hm : 0 ≤ m) : ok = alH p n D LN (fun i w => LR (i * 256 + w)) m.toNat V := by
  rcases h with ⟨h1, h2⟩ | ⟨h1, h2⟩
  · rw [alH_t (by rw [show m = k by omega]; exact h2)]; exact h1
  · rw [alH_f (h2 m.toNat (by omega))]; exact h1
end MWC
theorem al_c {p n D : Int} {LN : Int → Int} {LC : Int → Int → Int} {m : Nat} {V U : Int → q2} (h : 0 < n ∨ ∀ k, 0 ≤ k → k < (m : Int) → LN k ≤ 0) (hV : ∀ x, 0 ≤ x → x < n → q2E p (V x) (U x)) : alH p n D LN LC m V = alH p n D LN LC m U := by
  rcases h with h | h
  · exact alH_eq ⟨fun k => alw_E h hV k, fun k => alw_E h (fun x a b => q2E_s (hV x a b)) k⟩
  · have t : ∀ W : Int → q2, alw p n D LN LC W m := fun W => (alw_iff m).mpr (fun k a b c => by have := h k a b; omega)
    rw [alH_t (t V), alH_t (t U)]
theorem sq4_m {p : Int} {sq g : Int → Int} {x : Int} {new : Int → Int} (h0 : new 0 = (sq 0 * g (4 * x) + sq 1 * g (4 * x + 2)) % p) (h1 : new 1 = (sq 0 * g (4 * x + 1) + sq 1 * g (4 * x + 3)) % p) (h2 : new 2 = (sq 2 * g (4 * x) + sq 3 * g (4 * x + 2)) % p) (h3 : new 3 = (sq 2 * g (4 * x + 1) + sq 3 * g (4 * x + 3)) % p) : q2E p (sq4 new) (q2m (sq4 sq) (gv4 g x)) := by
  refine ⟨?_, ?_, ?_, ?_⟩
  · show mE p (new 0) _; rw [h0]; exact mE_emod p _
  · show mE p (new 1) _; rw [h1]; exact mE_emod p _
  · show mE p (new 2) _; rw [h2]; exact mE_emod p _
  · show mE p (new 3) _; rw [h3]; exact mE_emod p _
