/-! the model's laws at a way -/
theorem ra_eq (f : Int → Int) (l k : Int) : (fun w => f (2048 * l + (k * 256 + w))) = (fun w => f (256 * (8 * l + k) + w)) := by
  funext w
  congr 1
  omega
section MX
variable {p n D : Int}
theorem pt_ret {g c : Int → Int} {s w d : Int} (hd : 0 ≤ d) (he : w = sW n D d ∨ d = 0) (hs : 0 ≤ s ∧ s < p) (hS : mE p s (sm (fun w => c w * spr g n d.toNat w) w.toNat)) (hz : d = 0 → s = 0) : s = 0 ↔ (0 < d → q2z p (lvl (fun x => rh 1 p (g x)) n (sW n D d) d.toNat c)) := by
  by_cases h : d = 0
  · exact ⟨fun _ q => absurd q (by omega), fun _ => hz h⟩
  · have e : w = sW n D d := he.resolve_right h
    subst e
    have k := mp_fin (g := g) (c := c) (d := d.toNat) (n := n) hs hS
    exact ⟨fun q _ => k.mp q, fun q => k.mpr (q (by omega))⟩
theorem pt_mul {g : Int → Int} {w d j v c r : Int} (hn : 0 ≤ n) (hj : 0 ≤ j ∧ j < d) (hd : d ≤ D) (h : mE p v (c * spr g n j.toNat (w / sW n D (d - j)))) (hr : r = v * g (w / sW n D (d - 1 - j) % n) % p) : mE p r (c * spr g n (j + 1).toNat (w / sW n D (d - (j + 1)))) := by
  rw [hr, spr_st hn hj hd, ← Int.mul_assoc]
  exact mE_trans (mE_emod p _) (mE_mul h (mE_rfl p _))
theorem pt_add {g c : Int → Int} {w d j v s r : Int} (hn : 0 ≤ D) (hw : 0 ≤ w) (hj : j = d) (hS : mE p s (sm (fun w => c w * spr g n d.toNat w) w.toNat)) (h : mE p v (c w * spr g n j.toNat (w / sW n D (d - j)))) (hr : r = (s + v) % p) : mE p r (sm (fun w => c w * spr g n d.toNat w) (w + 1).toNat) := by
  subst hj
  rw [Int.sub_self, sW_0 hn, Int.ediv_one] at h
  rw [hr, sm_s _ hw]
  exact mE_trans (mE_emod p _) (mE_add hS h)
theorem pt_skip {g c : Int → Int} {w s : Int} {d : Nat} (hw : 0 ≤ w) (hS : mE p s (sm (fun w => c w * spr g n d w) w.toNat)) (h : c w = 0) : mE p s (sm (fun w => c w * spr g n d w) (w + 1).toNat) := by
  rw [sm_s _ hw, h, Int.zero_mul, Int.add_zero]
  exact hS
end MX
theorem R97_4 {f : Int → Int} {a b c d : Int} (h : R97 f) (ha : 0 ≤ a ∧ a < 97) (hb : 0 ≤ b ∧ b < 97) (hc : 0 ≤ c ∧ c < 97) (hd : 0 ≤ d ∧ d < 97) : R97 (up (up (up (up f 0 a) 1 b) 2 c) 3 d) := R97_up (R97_up (R97_up (R97_up h ha) hb) hc) hd
