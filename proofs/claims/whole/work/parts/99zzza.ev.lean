/-! sums told by tokens: LONG, and the value as the class works it out -/
def lgs (K : Int → Int) (i : Int) (s : Int × (Int → Int) × (Int → Int)) : Int × (Int → Int) × (Int → Int) :=
  if K i = 5 then (s.1, s.2.1, up s.2.2 s.1 (s.2.2 s.1 + 1))
  else if K i = 9 ∨ K i = 10 then (s.1, up s.2.1 s.1 (max (s.2.1 s.1) (s.2.2 s.1)), up s.2.2 s.1 0)
  else if K i = 11 then (min (s.1 + 1) 4, up s.2.1 (min (s.1 + 1) 4) 0, up s.2.2 (min (s.1 + 1) 4) 0)
  else if K i = 12 then (max (s.1 - 1) 0, s.2.1, up s.2.2 (max (s.1 - 1) 0) (s.2.2 (max (s.1 - 1) 0) + max (s.2.1 s.1) (s.2.2 s.1)))
  else s
def lgN (K : Int → Int) (fr : Int) (S T : Int → Int) : Nat → Int × (Int → Int) × (Int → Int)
  | 0 => (0, up S 0 0, up T 0 0)
  | k + 1 => lgs K (fr + k) (lgN K fr S T k)
/-- where the sum ends that begins at fr -/
noncomputable def enD (K : Int → Int) (m fr : Int) : Int := rn (fun j => ¬ (K j = 8 ∨ K j = 7)) m fr
noncomputable def lgR (K : Int → Int) (m fr : Int) (S T : Int → Int) : Int := max ((lgN K fr S T (enD K m fr - fr).toNat).2.1 0) ((lgN K fr S T (enD K m fr - fr).toNat).2.2 0)
abbrev evT := Int × (Int → Int) × (Int → Int)
/-- plus or minus one -/
def uRw (p s x : Int) : Int := if x = 0 then s % p else 0
/-- a letter -/
def eLt (x v : Int) : Int := if v = 1 + x then 1 else 0
def bLt (n D x u : Int) : Int := sS n D (sL n D u + 1) + (u - sS n D (sL n D u)) * n + x
def uR (p d s : Int) (T : Int → Int) : Int → Int := seg T (d * 364) 364 (uRw p s)
def aR (p d : Int) (S T : Int → Int) : Int → Int := seg S (d * 364) 364 (fun x => (S (d * 364 + x) + T (d * 364 + x)) % p)
def nR (p d v : Int) (T : Int → Int) : Int → Int := seg T (d * 364) 364 (fun x => (T (d * 364 + x) * v) % p)
def lR (n D p d x : Int) (T : Int → Int) : Int → Int := seg T (d * 364) 364 (fun y => prd n D (fun u => T (d * 364 + u)) (eLt x) y % p)
def mR (n D p d : Int) (S T : Int → Int) : Int → Int := seg T (d * 364) 364 (fun y => prd n D (fun u => T (d * 364 + u)) (fun u => S ((d + 1) * 364 + u)) y % p)
def evs (n D p : Int) (K V : Int → Int) (fr i : Int) (s : evT) : evT :=
  if K i = 5 then (s.1, s.2.1, lR n D p s.1 (V i) s.2.2)
  else if K i = 6 then (s.1, s.2.1, nR p s.1 (V i) s.2.2)
  else if K i = 9 ∨ K i = 10 then (s.1, if fr < i ∧ ¬ K (i - 1) = 11 then aR p s.1 s.2.1 s.2.2 else s.2.1, uR p s.1 (if K i = 9 then 1 else -1) s.2.2)
  else if K i = 11 then (min (s.1 + 1) 4, seg s.2.1 (min (s.1 + 1) 4 * 364) 364 (fun _ => 0), uR p (min (s.1 + 1) 4) 1 s.2.2)
  else (max (s.1 - 1) 0, aR p s.1 s.2.1 s.2.2, mR n D p (max (s.1 - 1) 0) (aR p s.1 s.2.1 s.2.2) s.2.2)
def evN (n D p : Int) (K V : Int → Int) (fr : Int) (S T : Int → Int) : Nat → evT
  | 0 => (0, seg S 0 364 (fun _ => 0), uR p 0 1 T)
  | k + 1 => evs n D p K V fr (fr + k) (evN n D p K V fr S T k)
/-- the sum that begins at fr -/
noncomputable def evR (n D p : Int) (K V : Int → Int) (m fr : Int) (S T : Int → Int) : Int → Int := aR p 0 (evN n D p K V fr S T (enD K m fr - fr).toNat).2.1 (evN n D p K V fr S T (enD K m fr - fr).toNat).2.2
theorem enD_eq {K : Int → Int} {m fr r : Int} (h1 : fr ≤ r) (h2 : r ≤ m) (h3 : ∀ j, fr ≤ j → j < r → ¬ (K j = 8 ∨ K j = 7)) (h4 : r < m → K r = 8 ∨ K r = 7) : enD K m fr = r := rn_eq h1 h2 h3 (fun a b => b (h4 a))
theorem lgN_s {K : Int → Int} {fr i : Int} {S T : Int → Int} {s : Int × (Int → Int) × (Int → Int)} (h : fr ≤ i) (e : lgN K fr S T (i - fr).toNat = s) : lgN K fr S T (i + 1 - fr).toNat = lgs K i s := by
  rw [show (i + 1 - fr).toNat = (i - fr).toNat + 1 by omega]
  show lgs K (fr + ((i - fr).toNat : Nat)) (lgN K fr S T (i - fr).toNat) = _
  rw [e, show fr + (((i - fr).toNat : Nat) : Int) = i by omega]
theorem evN_s {n D p : Int} {K V : Int → Int} {fr i : Int} {S T : Int → Int} {s : evT} (h : fr ≤ i) (e : evN n D p K V fr S T (i - fr).toNat = s) : evN n D p K V fr S T (i + 1 - fr).toNat = evs n D p K V fr i s := by
  rw [show (i + 1 - fr).toNat = (i - fr).toNat + 1 by omega]
  show evs n D p K V fr (fr + ((i - fr).toNat : Nat)) (evN n D p K V fr S T (i - fr).toNat) = _
  rw [e, show fr + (((i - fr).toNat : Nat) : Int) = i by omega]
section LGS
variable {K : Int → Int} {i d : Int} {A B : Int → Int}
theorem lgs_5 (h : K i = 5) : lgs K i (d, A, B) = (d, A, up B d (B d + 1)) := if_pos h
theorem lgs_9 (h : K i = 9 ∨ K i = 10) : lgs K i (d, A, B) = (d, up A d (max (A d) (B d)), up B d 0) := by
  unfold lgs
  rw [if_neg (by omega), if_pos h]
theorem lgs_11 (h : K i = 11) : lgs K i (d, A, B) = (min (d + 1) 4, up A (min (d + 1) 4) 0, up B (min (d + 1) 4) 0) := by
  unfold lgs
  rw [if_neg (by omega), if_neg (by omega), if_pos h]
theorem lgs_12 (h : K i = 12) : lgs K i (d, A, B) = (max (d - 1) 0, A, up B (max (d - 1) 0) (B (max (d - 1) 0) + max (A d) (B d))) := by
  unfold lgs
  rw [if_neg (by omega), if_neg (by omega), if_neg (by omega), if_pos h]
theorem lgs_0 (h : ¬ (K i = 5 ∨ K i = 9 ∨ K i = 10 ∨ K i = 11 ∨ K i = 12)) : lgs K i (d, A, B) = (d, A, B) := by
  unfold lgs
  rw [if_neg (by omega), if_neg (by omega), if_neg (by omega), if_neg (by omega)]
end LGS
section EVS
variable {n D p fr : Int} {K V : Int → Int} {i d : Int} {A B : Int → Int}
theorem evs_5 (h : K i = 5) : evs n D p K V fr i (d, A, B) = (d, A, lR n D p d (V i) B) := if_pos h
theorem evs_6 (h : K i = 6) : evs n D p K V fr i (d, A, B) = (d, A, nR p d (V i) B) := by
  unfold evs
  rw [if_neg (by omega), if_pos h]
theorem evs_9 (h : K i = 9 ∨ K i = 10) {c : Int} (g : fr < i ∧ ¬ K (i - 1) = 11) (hc : c = if K i = 9 then 1 else -1) : evs n D p K V fr i (d, A, B) = (d, aR p d A B, uR p d c B) := by
  unfold evs
  rw [if_neg (by omega), if_neg (by omega), if_pos h, if_pos g, hc]
theorem evs_9' (h : K i = 9 ∨ K i = 10) {c : Int} (g : ¬ (fr < i ∧ ¬ K (i - 1) = 11)) (hc : c = if K i = 9 then 1 else -1) : evs n D p K V fr i (d, A, B) = (d, A, uR p d c B) := by
  unfold evs
  rw [if_neg (by omega), if_neg (by omega), if_pos h, if_neg g, hc]
theorem evs_11 (h : K i = 11) : evs n D p K V fr i (d, A, B) = (min (d + 1) 4, seg A (min (d + 1) 4 * 364) 364 (fun _ => 0), uR p (min (d + 1) 4) 1 B) := by
  unfold evs
  rw [if_neg (by omega), if_neg (by omega), if_neg (by omega), if_pos h]
theorem evs_12 (h : ¬ (K i = 5 ∨ K i = 6 ∨ K i = 9 ∨ K i = 10 ∨ K i = 11)) : evs n D p K V fr i (d, A, B) = (max (d - 1) 0, aR p d A B, mR n D p (max (d - 1) 0) (aR p d A B) B) := by
  unfold evs
  rw [if_neg (by omega), if_neg (by omega), if_neg (by omega), if_neg (by omega)]
end EVS
/-- seven bits by four digits -/
theorem m99 {a v : Int} (ha : 0 ≤ a ∧ a < 97) (hv : 0 ≤ v ∧ v ≤ 9999) : 0 ≤ a * v ∧ a * v ≤ 970000 := by
  refine ⟨Int.mul_nonneg ha.1 hv.1, ?_⟩
  have h1 := Int.mul_le_mul_of_nonneg_right (show a ≤ 97 by omega) hv.1
  omega
theorem uR_up {T : Int → Int} {o v : Int} {g : Int → Int} (hg : g 0 = v) (hz : ∀ x, ¬ x = 0 → g x = 0) : up (seg T o 364 (fun _ => 0)) o v = seg T o 364 g := by
  funext y
  unfold up seg
  by_cases h : y = o
  · rw [if_pos h, if_pos (by omega), show y - o = 0 by omega, hg]
  · rw [if_neg h]
    by_cases h2 : o ≤ y ∧ y < o + 364
    · rw [if_pos h2, if_pos h2, hz _ (by omega)]
    · rw [if_neg h2, if_neg h2]
theorem uRw_0 (p s : Int) : uRw p s 0 = s % p := if_pos rfl
theorem uRw_n (p s : Int) : ∀ x, ¬ x = 0 → uRw p s x = 0 := fun _ h => if_neg h
section BLT
variable {n D p : Int}
theorem bLt_in {x u : Int} (hO : sOk n D p) (hx : 0 ≤ x ∧ x < n) (hu : 0 ≤ u ∧ u < sS n D (D + 1)) (h : sL n D u + 1 ≤ D) : sL n D (bLt n D x u) = sL n D u + 1 ∧ (bLt n D x u - sS n D (sL n D u + 1)) / n = u - sS n D (sL n D u) ∧ 0 ≤ bLt n D x u ∧ bLt n D x u < sS n D (D + 1) := by
  obtain ⟨a1, a2, a3, a4⟩ := sL_w hO hu.1 hu.2
  have h1 := dv_in (W := n) (n := sW n D (sL n D u)) (t := x) (y := u - sS n D (sL n D u)) hx.1 hx.2 a3 a4
  have h2 := sW_succ (n := n) (D := D) a1 (by omega)
  rw [Int.mul_comm n, ← h2] at h1
  have h3 := sS_word hO (show 0 ≤ sL n D u + 1 by omega) h1
  have e : bLt n D x u = sS n D (sL n D u + 1) + ((u - sS n D (sL n D u)) * n + x) := by unfold bLt; omega
  rw [e]
  refine ⟨sL_word hO (by omega) h1, ?_, h3.1, h3.2.2.1⟩
  rw [show sS n D (sL n D u + 1) + ((u - sS n D (sL n D u)) * n + x) - sS n D (sL n D u + 1) = x + (u - sS n D (sL n D u)) * n by omega, Int.add_mul_ediv_right _ _ (by omega), Int.ediv_eq_zero_of_lt hx.1 hx.2]
  omega
theorem bLt_inj {x u v : Int} (hO : sOk n D p) (hx : 0 ≤ x ∧ x < n) (hu : 0 ≤ u ∧ u < sS n D (D + 1)) (h : sL n D u + 1 ≤ D) (hv : 0 ≤ v ∧ v < sS n D (D + 1)) (g : sL n D v + 1 ≤ D) (e : bLt n D x u = bLt n D x v) : u = v := by
  have h1 := bLt_in hO hx hu h
  have h2 := bLt_in hO hx hv g
  rw [e] at h1
  have h3 : sL n D u = sL n D v := by omega
  rw [h3] at h1
  have h4 := h1.2.1.symm.trans h2.2.1
  omega
theorem prd_L {a : Int → Int} {x : Int} (hO : sOk n D p) (hx : 0 ≤ x ∧ x < n) (y : Int) : prd n D a (eLt x) y = sm (fun u => if sL n D u + 1 ≤ D ∧ bLt n D x u = y then a u else 0) (sS n D (D + 1)).toNat := by
  have hn1 : sW n D 1 = n := by rw [sW_in (by omega) (by have := hO.2.1; omega)]; exact Int.pow_one n
  have s0 : sS n D 1 = 1 := by
    rw [show (1 : Int) = 0 + 1 by omega, sS_succ (by omega), sS_0, sW_0 (by have := hO.2.1; omega)]
  have k := sS_word hO (show (0 : Int) ≤ 1 by omega) (w := x) (by rw [hn1]; exact hx)
  have kl := sL_word hO (show (0 : Int) ≤ 1 by omega) (w := x) (by rw [hn1]; exact hx)
  rw [s0] at k kl
  refine sm_ext _ (fun u u0 u1 => ?_)
  have h1 := sm_one (f := fun v => pTm n D a (eLt x) u v y) (k := 1 + x) (sS n D (D + 1)).toNat (by omega) (by omega) (fun j _ _ hj => by
    show pTm n D a (eLt x) u j y = 0
    unfold pTm eLt
    rw [if_neg hj, Int.mul_zero]
    split <;> rfl)
  refine h1.trans ?_
  show pTm n D a (eLt x) u (1 + x) y = _
  unfold pTm
  have e : bAt n D u (1 + x) = bLt n D x u := by
    unfold bAt bLt
    rw [kl, hn1, s0]
    omega
  rw [kl, e, show eLt x (1 + x) = 1 from if_pos rfl, Int.mul_one]
/-- the words behind which a letter has been put, all below u -/
def lI (n D x : Int) (a C : Int → Int) (u : Int) : Prop := (∀ v, 0 ≤ v → v < u → C (bLt n D x v) = a v) ∧ ∀ y, (∀ v, 0 ≤ v → v < u → ¬ y = bLt n D x v) → 0 ≤ y → y < 364 → C y = 0
theorem lI_s {x u : Int} {a C : Int → Int} (hO : sOk n D p) (hx : 0 ≤ x ∧ x < n) (hu : 0 ≤ u ∧ u < sS n D D) (h : lI n D x a C u) : lI n D x a (up C (bLt n D x u) (a u)) (u + 1) := by
  have hD := hO.2.1
  have m := sS_mono (D := D) hO.1.1 (show D ≤ D + 1 by omega)
  have lt : ∀ v, 0 ≤ v → v ≤ u → sL n D v + 1 ≤ D := fun v v0 v1 => by
    have := (sL_lt hO v0 (by omega) (show 0 ≤ D - 1 by omega)).mp (by rw [show D - 1 + 1 = D by omega]; omega)
    omega
  refine ⟨fun v v0 v1 => ?_, fun y hy y0 y1 => ?_⟩
  · by_cases e : v = u
    · rw [e, up_eq]
    · have ne : ¬ bLt n D x v = bLt n D x u := fun q => e (bLt_inj hO hx ⟨v0, by omega⟩ (lt v v0 (by omega)) ⟨hu.1, by omega⟩ (lt u hu.1 (by omega)) q)
      rw [up_ne ne]
      exact h.1 v v0 (by omega)
  · rw [up_ne (hy u hu.1 (by omega))]
    exact h.2 y (fun v a b => hy v a (by omega)) y0 y1
theorem lI_fin {x : Int} {a C : Int → Int} (hO : sOk n D p) (hx : 0 ≤ x ∧ x < n) (ha : ∀ u, 0 ≤ u → u < sS n D (D + 1) → 0 ≤ a u ∧ a u < p) (h : lI n D x a C (sS n D D)) (y : Int) (hy : 0 ≤ y ∧ y < 364) : C y = prd n D a (eLt x) y % p := by
  have hD := hO.2.1
  have m := sS_mono (D := D) hO.1.1 (show D ≤ D + 1 by omega)
  have hb := sS_b (k := D + 1) hO
  have lt : ∀ v, 0 ≤ v → v < sS n D (D + 1) → (v < sS n D D ↔ sL n D v + 1 ≤ D) := fun v v0 v1 => by
    have := sL_lt hO v0 v1 (show 0 ≤ D - 1 by omega)
    rw [show D - 1 + 1 = D by omega] at this
    rw [this]
    omega
  rw [prd_L hO hx]
  by_cases c : ∃ v, (0 ≤ v ∧ v < sS n D D) ∧ y = bLt n D x v
  · obtain ⟨v, ⟨v0, v1⟩, rfl⟩ := c
    have hl := (lt v v0 (by omega)).mp v1
    rw [h.1 v v0 v1]
    have h1 := sm_one (f := fun u => if sL n D u + 1 ≤ D ∧ bLt n D x u = bLt n D x v then a u else 0) (k := v) (sS n D (D + 1)).toNat v0 (by omega) (fun j j0 j1 hj => if_neg (fun q => hj (bLt_inj hO hx ⟨j0, by omega⟩ q.1 ⟨v0, by omega⟩ hl q.2)))
    rw [h1]
    show a v = (if sL n D v + 1 ≤ D ∧ bLt n D x v = bLt n D x v then a v else 0) % p
    rw [if_pos ⟨hl, rfl⟩]
    have := ha v v0 (by omega)
    rw [Int.emod_eq_of_lt this.1 this.2]
  · rw [h.2 y (fun v v0 v1 e => c ⟨v, ⟨v0, v1⟩, e⟩) hy.1 hy.2, sm_zero]
    · exact (Int.zero_emod p).symm
    · intro j j0 j1
      exact if_neg (fun q => c ⟨j, ⟨j0, (lt j j0 (by omega)).mpr q.1⟩, q.2.symm⟩)
end BLT
theorem prd_out {n D p : Int} {a b : Int → Int} (hO : sOk n D p) {y : Int} (hy : sS n D (D + 1) ≤ y) : prd n D a b y = 0 := by
  have hb := sS_b (k := D + 1) hO
  refine sm_zero _ (fun u u0 u1 => sm_zero _ (fun v v0 v1 => ?_))
  unfold pTm
  rw [if_neg]
  intro q
  have := bAt_in hO (u := u) (v := v) ⟨u0, by omega⟩ ⟨v0, by omega⟩ q.1
  omega
theorem mR_fin {n D p : Int} {a b Z C : Int → Int} (hO : sOk n D p) (hZ : ∀ x, 0 ≤ x → x < 364 → Z x = 0) (h1 : ∀ x, 0 ≤ x → x < sS n D (D + 1) → (0 ≤ C x ∧ C x < p) ∧ mE p (C x) (Z x + 1 * prd n D a b x)) (h2 : ∀ x, ¬ (0 ≤ x ∧ x < sS n D (D + 1)) → C x = Z x) (y : Int) (h0 : 0 ≤ y) (hy : y < 364) : C y = prd n D a b y % p := by
  have hb := sS_b (k := D + 1) hO
  rcases Int.lt_or_le y (sS n D (D + 1)) with c | c
  · have k := h1 y h0 c
    rw [hZ y h0 hy, Int.zero_add, Int.one_mul] at k
    have := mE_mod k.2
    rw [Int.emod_eq_of_lt k.1.1 k.1.2] at this
    exact this
  · rw [prd_out hO c, h2 y (by omega), hZ y h0 hy]
    exact (Int.zero_emod p).symm
theorem sg_cp {C T g : Int → Int} {o : Int} (h : ∀ y, 0 ≤ y → y < 364 → C y = g y) : en_cpy C T 0 o 364 = seg T o 364 g := by
  rw [cpy_new]
  exact seg_ext (fun x a b => by rw [Int.zero_add]; exact h x a b)
