/-! tables of squares; those alike marked -/
def dgt (p a : Int) : Nat → Int
  | 0 => a
  | k + 1 => dgt p a k / p
theorem dgt_s {p a k : Int} (h : 0 ≤ k) : dgt p a (k + 1).toNat = dgt p a k.toNat / p := by
  rw [show (k + 1).toNat = k.toNat + 1 by omega]; rfl
theorem dgt_b {p a : Int} (hp : 2 ≤ p) (ha : 0 ≤ a) : ∀ k : Nat, 0 ≤ dgt p a k ∧ dgt p a k ≤ a
  | 0 => ⟨ha, Int.le_refl a⟩
  | k + 1 => by
    have h := dgt_b hp ha k
    exact ⟨Int.ediv_nonneg h.1 (by omega), Int.le_trans (Int.ediv_le_self _ h.1) h.2⟩
theorem i32_ss {a b : Int} (ha : 0 ≤ a ∧ a < 97) (hb : 0 ≤ b ∧ b < 97) : i32 (a + b) := ⟨by omega, by omega⟩
theorem i32_pp {a b c d : Int} (ha : 0 ≤ a ∧ a < 97) (hb : 0 ≤ b ∧ b < 97) (hc : 0 ≤ c ∧ c < 97) (hd : 0 ≤ d ∧ d < 97) : i32 (a * b + c * d) := by
  have h1 := m97 ha hb
  have h2 := m97 hc hd
  exact ⟨by omega, by omega⟩
def sqT (s p : Int) (ST PT : Int → Int) : Prop := s = 2 → p ≤ 3 ∧ ∀ a b, 0 ≤ a → a < sqN 2 p → 0 ≤ b → b < sqN 2 p → ST (a * 81 + b) = io 2 p (q2a (rh 2 p a) (rh 2 p b)) ∧ PT (a * 81 + b) = io 2 p (q2m (rh 2 p a) (rh 2 p b))
def qsm (s p a b : Int) : Int := io s p (q2a (rh s p a) (rh s p b))
def qpr (s p a b : Int) : Int := io s p (q2m (rh s p a) (rh s p b))
def qon (s p c : Int) : Int := io s p (c, 0, 0, c)
section SDC
variable {s p : Int}
theorem sqN_81 (hp : 2 ≤ p ∧ p ≤ 97) (h : s = 1 ∨ s = 2 ∧ p ≤ 3) : 2 ≤ sqN s p ∧ sqN s p ≤ 97 ∧ (s = 2 → sqN s p ≤ 81) := by
  unfold sqN
  rcases h with h | ⟨h, h3⟩
  · rw [if_pos h]; omega
  · rw [if_neg (by omega)]
    have : p = 2 ∨ p = 3 := by omega
    rcases this with rfl | rfl <;> omega
theorem scl_m {M N : q2} (h1 : scl s p M) (h2 : scl s p N) : scl s p (q2m M N) := fun e => by
  have a := h1 e
  have b := h2 e
  refine ⟨?_, ?_, ?_⟩
  · have := mE_add (mE_mul (mE_rfl p M.1) b.1) (mE_mul a.1 (mE_rfl p N.2.2.2))
    exact mE_trans this (mE_of (by rw [Int.mul_zero, Int.zero_mul]; rfl))
  · have := mE_add (mE_mul a.2.1 (mE_rfl p N.1)) (mE_mul (mE_rfl p M.2.2.2) b.2.1)
    exact mE_trans this (mE_of (by rw [Int.mul_zero, Int.zero_mul]; rfl))
  · have h3 := mE_add (mE_mul a.2.1 (mE_rfl p N.2.1)) (mE_mul a.2.2 b.2.2)
    have h4 := mE_add (mE_mul (mE_rfl p M.1) (mE_rfl p N.1)) (mE_mul a.1 (mE_rfl p N.2.2.1))
    rw [Int.zero_mul] at h3 h4
    refine mE_trans h3 (mE_trans (mE_of ?_) (mE_symm h4))
    omega
theorem scl_a {M N : q2} (h1 : scl s p M) (h2 : scl s p N) : scl s p (q2a M N) := fun e => by
  have a := h1 e
  have b := h2 e
  exact ⟨mE_add a.1 b.1, mE_add a.2.1 b.2.1, mE_add a.2.2 b.2.2⟩
theorem scl_1 (c : Int) : scl s p (c, 0, 0, c) := fun _ => ⟨mE_rfl p _, mE_rfl p _, mE_rfl p _⟩
theorem rh_sm (hp : 2 ≤ p) (a b : Int) : q2E p (rh s p (qsm s p a b)) (q2a (rh s p a) (rh s p b)) := rh_io hp (scl_a (scl_rh a) (scl_rh b))
theorem rh_pr (hp : 2 ≤ p) (a b : Int) : q2E p (rh s p (qpr s p a b)) (q2m (rh s p a) (rh s p b)) := rh_io hp (scl_m (scl_rh a) (scl_rh b))
theorem rh_on (hp : 2 ≤ p) (c : Int) : q2E p (rh s p (qon s p c)) (c, 0, 0, c) := rh_io hp (scl_1 c)
theorem io_inj (hp : 2 ≤ p) {M N : q2} (h1 : scl s p M) (h2 : scl s p N) (e : io s p M = io s p N) : q2E p M N := by
  have a := rh_io hp h1
  rw [e] at a
  exact q2E_t (q2E_s a) (rh_io hp h2)
theorem q2_c (c : Int) (M : q2) : q2m (c, 0, 0, c) M = q2s c M := by
  apply q2x <;> simp only [q2m, q2s] <;> omega
/-- what is marked is alike -/
theorem mk_orb (hp : sPr p) {k g h c : Int} (hs : ¬ s = 1) (hc : 1 ≤ c ∧ c < p) (e : qpr s p g h = qon s p 1) : orb s p k (qpr s p (qon s p c) (qpr s p (qpr s p g k) h)) := by
  have h2 := hp.1
  have e1 : q2E p (q2m (rh s p g) (rh s p h)) q2I := io_inj h2 (scl_m (scl_rh g) (scl_rh h)) (scl_1 1) e
  obtain ⟨c', i1, i2, i3⟩ := pr_inv hp hc.1 hc.2
  refine ⟨c, c', rh s p g, rh s p h, ⟨e1, mE_ofmod (by rw [Int.mul_comm, i3, Int.emod_eq_of_lt (by decide) (by omega)]), fun q => absurd q hs⟩, ?_⟩
  refine io_E ?_
  have a1 := q2E_m (rh_on (s := s) h2 c) (q2E_t (rh_pr (s := s) h2 (qpr s p g k) h) (q2E_m (rh_pr (s := s) h2 g k) (q2E_r p (rh s p h))))
  rw [q2_c] at a1
  exact a1
/-- the state of the marks: only those alike a kind so far, each with as many ways -/
def mkI (s p k : Int) (old new : Int → Int) : Prop := R01 new ∧ (∀ v, ¬ new v = old v → old v = 0 ∧ orb s p k v)
theorem mk_0 {k : Int} {f : Int → Int} (h : R01 f) : mkI s p k f f := ⟨h, fun v g => absurd rfl g⟩
theorem mk_s {k v : Int} {old new : Int → Int} (h : mkI s p k old new) (ho : orb s p k v) (hold : R01 old) : mkI s p k old (up new v 1) := by
  refine ⟨R01_up h.1 (.inr rfl), fun u g => ?_⟩
  by_cases e : u = v
  · rw [e] at g ⊢
    rw [up_eq] at g
    exact ⟨by have := hold v; omega, ho⟩
  · rw [up_ne e] at g
    exact h.2 u g
theorem mk_sum {v : Int} {old new : Int → Int} {r : Int} (hn : R01 new) (hv : 0 ≤ v ∧ v < 81) (hr : r = sm (fun x => new x - old x) 81) : (if new v = 0 then r + 1 else r) = sm (fun x => up new v 1 x - old x) 81 := by
  have e : sm (fun x => up new v 1 x - old x) 81 = sm (up (fun x => new x - old x) v (1 - old v)) 81 := sm_ext _ (fun x _ _ => by
    by_cases g : x = v
    · rw [g, up_eq, up_eq]
    · rw [up_ne g, up_ne g])
  rw [e, sm_upd 81 hv.1 hv.2, ← hr]
  have := hn v
  by_cases g : new v = 0
  · rw [if_pos g]; omega
  · rw [if_neg g]; omega
end SDC
theorem d_97 {p : Int} (hp : sPr p) (z : Int) : 0 ≤ z % p ∧ z % p < 97 := by
  have := sR_lt hp (z := z)
  have := hp.2.1
  omega
theorem q2_1 (M : q2) : q2m (1, 0, 0, 1) M = M := q2_Il M
theorem mk_one {s p : Int} (hp : 2 ≤ p) : qpr s p (qon s p 1) (qon s p 1) = qon s p 1 := by
  refine io_E (q2E_t (q2E_m (rh_on hp 1) (rh_on hp 1)) (q2E_of ?_))
  rw [q2_1]
theorem mk_self {s p k : Int} (hp : 2 ≤ p) (hk : 0 ≤ k ∧ k < sqN s p) : qpr s p (qon s p 1) (qpr s p (qpr s p (qon s p 1) k) (qon s p 1)) = k := by
  have h1 := q2E_t (rh_pr (s := s) hp (qon s p 1) k) (q2E_m (rh_on hp 1) (q2E_r p (rh s p k)))
  rw [q2_1] at h1
  have h2 := q2E_t (rh_pr (s := s) hp (qpr s p (qon s p 1) k) (qon s p 1)) (q2E_m h1 (rh_on hp 1))
  have h3 : q2m (rh s p k) (1, 0, 0, 1) = rh s p k := q2_Ir _
  rw [h3] at h2
  have h4 := q2E_m (rh_on (s := s) hp 1) h2
  rw [q2_1] at h4
  exact (io_E h4).trans (io_rh hp hk)
