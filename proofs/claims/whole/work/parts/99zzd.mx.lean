/-! the model's laws at a way -/
theorem ra_eq (f : Int → Int) (l k : Int) : (fun w => f (2048 * l + (k * 256 + w))) = (fun w => f (256 * (8 * l + k) + w)) := by
  funext w
  congr 1
  omega
section MX
variable {p n D : Int}
theorem pt_ret {g c : Int → Int} {s w d : Int} (hd : 0 ≤ d) (he : w = sW n D d ∨ d = 0) (hs : 0 ≤ s ∧ s < p) (hS : mE p s (sm (fun w => c w * spr g n d.toNat w) w.toNat)) (hz : d = 0 → s = 0) : s = 0 ↔ (0 < d → q2z p (lvl (fun x => rh 1 p (g x)) n (sW n D d) d.toNat c)) := by
  by_cases h : d = 0
  · exact ⟨fun _ q => absurd q (by omega), fun _ => hz h⟩
  · have e : w = sW n D d := he.resolve_right h
    subst e
    have k := mp_fin (g := g) (c := c) (d := d.toNat) (n := n) hs hS
    exact ⟨fun q _ => k.mp q, fun q => k.mpr (q (by omega))⟩
theorem pt_mul {g : Int → Int} {w d j v c r : Int} (hn : 0 ≤ n) (hj : 0 ≤ j ∧ j < d) (hd : d ≤ D) (h : mE p v (c * spr g n j.toNat (w / sW n D (d - j)))) (hr : r = v * g (w / sW n D (d - 1 - j) % n) % p) : mE p r (c * spr g n (j + 1).toNat (w / sW n D (d - (j + 1)))) := by
  rw [hr, spr_st hn hj hd, ← Int.mul_assoc]
  exact mE_trans (mE_emod p _) (mE_mul h (mE_rfl p _))
theorem pt_add {g c : Int → Int} {w d j v s r : Int} (hn : 0 ≤ D) (hw : 0 ≤ w) (hj : j = d) (hS : mE p s (sm (fun w => c w * spr g n d.toNat w) w.toNat)) (h : mE p v (c w * spr g n j.toNat (w / sW n D (d - j)))) (hr : r = (s + v) % p) : mE p r (sm (fun w => c w * spr g n d.toNat w) (w + 1).toNat) := by
  subst hj
  rw [Int.sub_self, sW_0 hn, Int.ediv_one] at h
  rw [hr, sm_s _ hw]
  exact mE_trans (mE_emod p _) (mE_add hS h)
theorem pt_skip {g c : Int → Int} {w s : Int} {d : Nat} (hw : 0 ≤ w) (hS : mE p s (sm (fun w => c w * spr g n d w) w.toNat)) (h : c w = 0) : mE p s (sm (fun w => c w * spr g n d w) (w + 1).toNat) := by
  rw [sm_s _ hw, h, Int.zero_mul, Int.add_zero]
  exact hS
end MX
theorem R97_4 {f : Int → Int} {a b c d : Int} (h : R97 f) (ha : 0 ≤ a ∧ a < 97) (hb : 0 ≤ b ∧ b < 97) (hc : 0 ≤ c ∧ c < 97) (hd : 0 ≤ d ∧ d < 97) : R97 (up (up (up (up f 0 a) 1 b) 2 c) 3 d) := R97_up (R97_up (R97_up (R97_up h ha) hb) hc) hd
section MY
variable {p n D : Int}
theorem md_0 {V : Int → q2} {f : Int → Int} {c w : Int} : q2E p (sq4 (up (up (up (up f 0 c) 1 0) 2 0) 3 c)) (q2s c (wpr V n ((0 : Int)).toNat w)) := by
  refine q2E_of ?_
  show sq4 _ = q2s c q2I
  apply q2x <;> simp [sq4, q2s, q2I, up]
theorem md_mul {g f new c: Int → Int} {w d j : Int} (hn : 0 ≤ n) (hj : 0 ≤ j ∧ j < d) (hd : d ≤ D) (h : q2E p (sq4 f) (q2s (c w) (wpr (gv4 g) n j.toNat (w / sW n D (d - j)))))
    (h4 : new 0 = (f 0 * g (4 * (w / sW n D (d - 1 - j) % n)) + f 1 * g (4 * (w / sW n D (d - 1 - j) % n) + 2)) % p ∧ new 1 = (f 0 * g (4 * (w / sW n D (d - 1 - j) % n) + 1) + f 1 * g (4 * (w / sW n D (d - 1 - j) % n) + 3)) % p ∧ new 2 = (f 2 * g (4 * (w / sW n D (d - 1 - j) % n)) + f 3 * g (4 * (w / sW n D (d - 1 - j) % n) + 2)) % p ∧ new 3 = (f 2 * g (4 * (w / sW n D (d - 1 - j) % n) + 1) + f 3 * g (4 * (w / sW n D (d - 1 - j) % n) + 3)) % p ∧ R97 new) : q2E p (sq4 new) (q2s (c w) (wpr (gv4 g) n (j + 1).toNat (w / sW n D (d - (j + 1))))) := by
  rw [wpr_st hn hj hd, ← q2_sl]
  exact q2E_t (sq4_m h4.1 h4.2.1 h4.2.2.1 h4.2.2.2.1) (q2E_m h (q2E_r p _))
theorem md_add {g f s new c : Int → Int} {w d j : Int} (hn : 0 ≤ D) (hw : 0 ≤ w) (hj : j = d) (hS : q2E p (sq4 s) (q2S (fun w => q2s (c w) (wpr (gv4 g) n d.toNat w)) w.toNat)) (h : q2E p (sq4 f) (q2s (c w) (wpr (gv4 g) n j.toNat (w / sW n D (d - j))))) (h0 : new 0 = (s 0 + f 0) % p) (h1 : new 1 = (s 1 + f 1) % p) (h2 : new 2 = (s 2 + f 2) % p) (h3 : new 3 = (s 3 + f 3) % p) : q2E p (sq4 new) (q2S (fun w => q2s (c w) (wpr (gv4 g) n d.toNat w)) (w + 1).toNat) := by
  subst hj
  rw [Int.sub_self, sW_0 hn, Int.ediv_one] at h
  rw [q2S_s _ hw]
  refine q2E_t ?_ (q2E_a hS h)
  refine ⟨?_, ?_, ?_, ?_⟩
  · show mE p (new 0) _; rw [h0]; exact mE_emod p _
  · show mE p (new 1) _; rw [h1]; exact mE_emod p _
  · show mE p (new 2) _; rw [h2]; exact mE_emod p _
  · show mE p (new 3) _; rw [h3]; exact mE_emod p _
theorem md_skip {g s c : Int → Int} {w : Int} {d : Nat} (hw : 0 ≤ w) (hS : q2E p (sq4 s) (q2S (fun w => q2s (c w) (wpr (gv4 g) n d w)) w.toNat)) (h : c w = 0) : q2E p (sq4 s) (q2S (fun w => q2s (c w) (wpr (gv4 g) n d w)) (w + 1).toNat) := by
  rw [q2S_s _ hw, h]
  have e : ∀ a b : q2, q2a a (q2s 0 b) = a := fun a b => by apply q2x <;> simp [q2a, q2s]
  rw [e]
  exact hS
/-- all four below p -/
def b4 (p : Int) (s : Int → Int) : Prop := (0 ≤ s 0 ∧ s 0 < p) ∧ (0 ≤ s 1 ∧ s 1 < p) ∧ (0 ≤ s 2 ∧ s 2 < p) ∧ (0 ≤ s 3 ∧ s 3 < p)
def z4 (s : Int → Int) : Prop := s 0 = 0 ∧ s 1 = 0 ∧ s 2 = 0 ∧ s 3 = 0
theorem md_ret {g s c : Int → Int} {w d : Int} (hd : 0 ≤ d) (he : w = sW n D d ∨ d = 0) (hb : b4 p s) (hS : q2E p (sq4 s) (q2S (fun w => q2s (c w) (wpr (gv4 g) n d.toNat w)) w.toNat)) (hz : d = 0 → z4 s) : z4 s ↔ (0 < d → q2z p (lvl (gv4 g) n (sW n D d) d.toNat c)) := by
  by_cases h : d = 0
  · exact ⟨fun _ q => absurd q (by omega), fun _ => hz h⟩
  · have e : w = sW n D d := he.resolve_right h
    subst e
    have m0 := mE_mod hS.1
    have m1 := mE_mod hS.2.1
    have m2 := mE_mod hS.2.2.1
    have m3 := mE_mod hS.2.2.2
    rw [show (sq4 s).1 = s 0 from rfl, Int.emod_eq_of_lt hb.1.1 hb.1.2] at m0
    rw [show (sq4 s).2.1 = s 1 from rfl, Int.emod_eq_of_lt hb.2.1.1 hb.2.1.2] at m1
    rw [show (sq4 s).2.2.1 = s 2 from rfl, Int.emod_eq_of_lt hb.2.2.1.1 hb.2.2.1.2] at m2
    rw [show (sq4 s).2.2.2 = s 3 from rfl, Int.emod_eq_of_lt hb.2.2.2.1 hb.2.2.2.2] at m3
    have k : z4 s ↔ q2z p (lvl (gv4 g) n (sW n D d) d.toNat c) := by
      unfold z4
      rw [m0, m1, m2, m3]
      exact Iff.rfl
    exact ⟨fun q _ => k.mp q, fun q => k.mpr (q (by omega))⟩
end MY
