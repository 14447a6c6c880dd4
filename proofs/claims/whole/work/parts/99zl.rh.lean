/-! squares by their numbers; ways seen from another basis -/
def rh (s p a : Int) : q2 := if s = 1 then (a, 0, 0, a) else (a % p, a / p % p, a / p / p % p, a / p / p / p % p)
def io (s p : Int) (M : q2) : Int := if s = 1 then M.1 % p else ((M.2.2.2 % p * p + M.2.2.1 % p) * p + M.2.1 % p) * p + M.1 % p
def sqN (s p : Int) : Int := if s = 1 then p else p * p * p * p
def scl (s p : Int) (M : q2) : Prop := s = 1 → mE p M.2.1 0 ∧ mE p M.2.2.1 0 ∧ mE p M.2.2.2 M.1
section RHO
variable {s p : Int}
theorem dg_b {a b p N : Int} (hp : 0 < p) (ha : 0 ≤ a ∧ a < N) (hb : 0 ≤ b ∧ b < p) : 0 ≤ a * p + b ∧ a * p + b < N * p := by
  have h := dv_in (W := p) (n := N) (t := b) (y := a) hb.1 hb.2 ha.1 ha.2
  rw [Int.mul_comm p] at h
  exact h
theorem io_b (hp : 2 ≤ p) (M : q2) : 0 ≤ io s p M ∧ io s p M < sqN s p := by
  have m : ∀ z : Int, 0 ≤ z % p ∧ z % p < p := fun z => ⟨Int.emod_nonneg _ (by omega), Int.emod_lt_of_pos _ (by omega)⟩
  unfold io sqN
  by_cases g : s = 1
  · rw [if_pos g, if_pos g]; exact m _
  · rw [if_neg g, if_neg g]
    exact dg_b (by omega) (dg_b (by omega) (dg_b (by omega) (m _) (m _)) (m _)) (m _)
theorem io_E {M N : q2} (h : q2E p M N) : io s p M = io s p N := by
  unfold io
  rw [mE_mod h.1, mE_mod h.2.1, mE_mod h.2.2.1, mE_mod h.2.2.2]
theorem rh_io (hp : 2 ≤ p) {M : q2} (h : scl s p M) : q2E p (rh s p (io s p M)) M := by
  have m : ∀ z : Int, 0 ≤ z % p ∧ z % p < p := fun z => ⟨Int.emod_nonneg _ (by omega), Int.emod_lt_of_pos _ (by omega)⟩
  unfold rh io
  by_cases g : s = 1
  · rw [if_pos g, if_pos g]
    have h := h g
    exact ⟨mE_emod p _, mE_symm h.1, mE_symm h.2.1, mE_trans (mE_emod p _) (mE_symm h.2.2)⟩
  · rw [if_neg g, if_neg g]
    have a1 := dv_q (W := p) (y := (M.2.2.2 % p * p + M.2.2.1 % p) * p + M.2.1 % p) (m M.1).1 (m M.1).2
    have a2 := dv_q (W := p) (y := M.2.2.2 % p * p + M.2.2.1 % p) (m M.2.1).1 (m M.2.1).2
    have a3 := dv_q (W := p) (y := M.2.2.2 % p) (m M.2.2.1).1 (m M.2.2.1).2
    refine ⟨?_, ?_, ?_, ?_⟩
    · show mE p ((((M.2.2.2 % p * p + M.2.2.1 % p) * p + M.2.1 % p) * p + M.1 % p) % p) M.1
      rw [a1.2]; exact mE_emod p _
    · show mE p ((((M.2.2.2 % p * p + M.2.2.1 % p) * p + M.2.1 % p) * p + M.1 % p) / p % p) M.2.1
      rw [a1.1, a2.2]; exact mE_emod p _
    · show mE p ((((M.2.2.2 % p * p + M.2.2.1 % p) * p + M.2.1 % p) * p + M.1 % p) / p / p % p) M.2.2.1
      rw [a1.1, a2.1, a3.2]; exact mE_emod p _
    · show mE p ((((M.2.2.2 % p * p + M.2.2.1 % p) * p + M.2.1 % p) * p + M.1 % p) / p / p / p % p) M.2.2.2
      rw [a1.1, a2.1, a3.1]
      exact mE_trans (mE_emod p _) (mE_emod p _)
theorem io_rh (hp : 2 ≤ p) {a : Int} (h : 0 ≤ a ∧ a < sqN s p) : io s p (rh s p a) = a := by
  unfold rh io
  by_cases g : s = 1
  · rw [if_pos g, if_pos g]
    unfold sqN at h
    rw [if_pos g] at h
    exact Int.emod_eq_of_lt h.1 h.2
  · rw [if_neg g, if_neg g]
    unfold sqN at h
    rw [if_neg g] at h
    have e1 := Int.emod_add_mul_ediv a p
    have e2 := Int.emod_add_mul_ediv (a / p) p
    have e3 := Int.emod_add_mul_ediv (a / p / p) p
    have q1 : a / p < p * p * p := Int.ediv_lt_of_lt_mul (by omega) h.2
    have q2 : a / p / p < p * p := Int.ediv_lt_of_lt_mul (by omega) q1
    have q3 : a / p / p / p < p := Int.ediv_lt_of_lt_mul (by omega) q2
    have n1 := Int.ediv_nonneg h.1 (show 0 ≤ p by omega)
    have n2 := Int.ediv_nonneg n1 (show 0 ≤ p by omega)
    have n3 := Int.ediv_nonneg n2 (show 0 ≤ p by omega)
    show ((a / p / p / p % p % p * p + a / p / p % p % p) * p + a / p % p % p) * p + a % p % p = a
    rw [Int.emod_emod_of_dvd _ (Int.dvd_refl p), Int.emod_emod_of_dvd _ (Int.dvd_refl p), Int.emod_emod_of_dvd _ (Int.dvd_refl p), Int.emod_emod_of_dvd _ (Int.dvd_refl p), Int.emod_eq_of_lt n3 q3]
    have f3 : a / p / p / p * p + a / p / p % p = a / p / p := by rw [Int.mul_comm]; omega
    have f2 : a / p / p * p + a / p % p = a / p := by rw [Int.mul_comm]; omega
    have f1 : a / p * p + a % p = a := by rw [Int.mul_comm]; omega
    rw [f3, f2, f1]
theorem rh_0 : rh s p 0 = q2O := by
  unfold rh
  split
  · rfl
  · rw [Int.zero_ediv, Int.zero_ediv, Int.zero_ediv, Int.zero_emod]; rfl
theorem scl_rh (a : Int) : scl s p (rh s p a) := fun g => by
  unfold rh
  rw [if_pos g]
  exact ⟨mE_rfl p _, mE_rfl p _, mE_rfl p _⟩
/-- the family of ways alike: g * M * h by a number c, g and h each other's inverse -/
def tr4 (c : Int) (g h M : q2) : q2 := q2s c (q2m (q2m g M) h)
def tOk (s p c c' : Int) (g h : q2) : Prop := q2E p (q2m g h) q2I ∧ mE p (c * c') 1 ∧ (s = 1 → g = q2I ∧ h = q2I)
theorem tr4_scl {c : Int} {g h M : q2} (hs : s = 1 → g = q2I ∧ h = q2I) (hM : scl s p M) : scl s p (tr4 c g h M) := fun e => by
  obtain ⟨rfl, rfl⟩ := hs e
  unfold tr4
  rw [q2_Il, q2_Ir]
  have k := hM e
  refine ⟨mE_trans (mE_mul (mE_rfl p c) k.1) (mE_of (Int.mul_zero c)), mE_trans (mE_mul (mE_rfl p c) k.2.1) (mE_of (Int.mul_zero c)), mE_mul (mE_rfl p c) k.2.2⟩
theorem tr4_E {c : Int} {g h M N : q2} (e : q2E p M N) : q2E p (tr4 c g h M) (tr4 c g h N) := q2E_c (mE_rfl p _) (q2E_m (q2E_m (q2E_r p _) e) (q2E_r p _))
theorem tr4_inv {c c' : Int} {g h M : q2} (ht : tOk s p c c' g h) : q2E p (tr4 c' h g (tr4 c g h M)) M := by
  obtain ⟨h1, h2, -⟩ := ht
  have h3 := q2_inv h1
  unfold tr4
  rw [q2_sr, q2_sl, q2_ss]
  have e : q2m (q2m h (q2m (q2m g M) h)) g = q2m (q2m (q2m h g) M) (q2m h g) := by simp only [q2_as]
  rw [e]
  have k := q2E_c (c := c' * c) (d := 1) (by rw [Int.mul_comm]; exact h2) (q2E_m (q2E_m h3 (q2E_r p M)) h3)
  rw [q2_Il, q2_Ir, q2_s1] at k
  exact k
theorem tOk_s {c c' : Int} {g h : q2} (ht : tOk s p c c' g h) : tOk s p c' c h g := ⟨q2_inv ht.1, by rw [Int.mul_comm]; exact ht.2.1, fun e => ⟨(ht.2.2 e).2, (ht.2.2 e).1⟩⟩
def pi4 (s p c : Int) (g h : q2) (a : Int) : Int := io s p (tr4 c g h (rh s p a))
theorem pi4_rh (hp : 2 ≤ p) {c c' : Int} {g h : q2} (ht : tOk s p c c' g h) (a : Int) : q2E p (rh s p (pi4 s p c g h a)) (tr4 c g h (rh s p a)) := rh_io hp (tr4_scl ht.2.2 (scl_rh a))
theorem pi4_inv (hp : 2 ≤ p) {c c' : Int} {g h : q2} (ht : tOk s p c c' g h) {a : Int} (ha : 0 ≤ a ∧ a < sqN s p) : pi4 s p c' h g (pi4 s p c g h a) = a := by
  show io s p (tr4 c' h g (rh s p (pi4 s p c g h a))) = a
  rw [io_E (q2E_t (tr4_E (pi4_rh hp ht a)) (tr4_inv ht)), io_rh hp ha]
theorem pi4_0 {c : Int} {g h : q2} : pi4 s p c g h 0 = 0 := by
  unfold pi4 tr4
  rw [rh_0, q2_mO, q2_Om, q2_sO]
  unfold io q2O
  split
  · exact Int.zero_emod p
  · show ((0 % p * p + 0 % p) * p + 0 % p) * p + 0 % p = 0
    rw [Int.zero_emod, Int.zero_mul, Int.zero_add, Int.zero_mul, Int.zero_add, Int.zero_mul, Int.zero_add]
noncomputable def HW (s p n D : Int) (LN : Int → Int) (LC : Int → Int → Int) (m : Nat) (v : Int → Int) : Int := alH p n D LN LC m (fun x => rh s p (v x))
variable {n D : Int} {LN : Int → Int} {LC : Int → Int → Int} {m : Nat}
theorem HW_x (hn : 0 < n) : hxt n (HW s p n D LN LC m) := fun v v' h => alH_eq ⟨fun k => alw_E hn (fun x a b => q2E_of (by rw [h x a b])) k, fun k => alw_E hn (fun x a b => q2E_of (by rw [h x a b])) k⟩
theorem HW_pi (hp : 2 ≤ p) (hn : 0 < n) {c c' : Int} {g h : q2} (ht : tOk s p c c' g h) (v : Int → Int) : HW s p n D LN LC m (fun x => pi4 s p c g h (v x)) = HW s p n D LN LC m v := by
  refine alH_eq ⟨fun k => ?_, fun k => ?_⟩
  · have k2 := alw_cj (tOk_s ht).1 (c := c') (alw_E hn (fun x _ _ => pi4_rh hp ht (v x)) k)
    exact alw_E hn (fun x _ _ => tr4_inv ht) k2
  · have k2 := alw_cj ht.1 (c := c) k
    exact alw_E hn (fun x _ _ => q2E_s (pi4_rh hp ht (v x))) k2
/-- the ways whose first letter that is not nought has a square -/
noncomputable def Nw (s p n D : Int) (LN : Int → Int) (LC : Int → Int → Int) (m : Nat) (f k : Int) : Int := cq (sqN s p) n (HW s p n D LN LC m) f (up (fun _ => 0) f k)
theorem sqN_p (hp : 2 ≤ p) : 0 < sqN s p := by
  have := io_b (s := s) hp q2O
  omega
theorem Nw_pi (hp : 2 ≤ p) (hn : 0 < n) {c c' f k : Int} {g h : q2} (ht : tOk s p c c' g h) : Nw s p n D LN LC m f (pi4 s p c g h k) = Nw s p n D LN LC m f k := by
  unfold Nw cq
  have hS := sqN_p (s := s) hp
  have e := cnt_perm (S := sqN s p) (n := n) (H := HW s p n D LN LC m) (π := pi4 s p c g h) (κ := pi4 s p c' h g) (by omega) (fun a a0 a1 => ⟨io_b hp _, pi4_inv hp ht ⟨a0, a1⟩⟩) (fun a a0 a1 => ⟨io_b hp _, pi4_inv hp (tOk_s ht) ⟨a0, a1⟩⟩) (HW_pi hp hn ht) (n - 1 - f).toNat (up (fun _ => 0) f k)
  rw [← e]
  congr 1
  funext x
  by_cases q : x = f
  · rw [q, up_eq, up_eq]
  · rw [up_ne q, up_ne q, pi4_0]
def orb (s p k v : Int) : Prop := ∃ c c' g h, tOk s p c c' g h ∧ v = pi4 s p c g h k
theorem orb_b (hp : 2 ≤ p) {k v : Int} (h : orb s p k v) : 0 ≤ v ∧ v < sqN s p := by
  obtain ⟨c, c', g, h, -, rfl⟩ := h
  exact io_b hp _
theorem orb_ne (hp : 2 ≤ p) {k v : Int} (hk : 0 < k ∧ k < sqN s p) (h : orb s p k v) : ¬ v = 0 := fun e => by
  obtain ⟨c, c', g, h, ht, rfl⟩ := h
  have := pi4_inv hp ht (a := k) ⟨by omega, hk.2⟩
  rw [e, pi4_0] at this
  omega
theorem orb_self (hp : 2 ≤ p) {k : Int} (hk : 0 ≤ k ∧ k < sqN s p) : orb s p k k := by
  refine ⟨1, 1, q2I, q2I, ⟨q2E_of (q2_Il _), mE_of (by decide), fun _ => ⟨rfl, rfl⟩⟩, ?_⟩
  unfold pi4 tr4
  rw [q2_Il, q2_Ir, q2_s1, io_rh hp hk]
theorem Nw_orb (hp : 2 ≤ p) (hn : 0 < n) {f k v : Int} (h : orb s p k v) : Nw s p n D LN LC m f v = Nw s p n D LN LC m f k := by
  obtain ⟨c, c', g, h, ht, rfl⟩ := h
  exact Nw_pi hp hn ht
end RHO
