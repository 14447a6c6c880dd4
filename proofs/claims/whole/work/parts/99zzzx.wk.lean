/-! the reference's code words, worked on a pile of rows (the top first) -/
def wkst (n D p c v : Int) (st : List (Int → Int)) : List (Int → Int) :=
  if c = 0 then (fun x => if x = 0 then v % p else 0) :: st
  else if c = 1 then (fun x => eLt v x % p) :: st
  else if c = 5 then (match st with
    | r :: t => (fun x => (-r x) % p) :: t
    | [] => [])
  else (match st with
    | b :: a :: t => (fun x => (if c = 4 then prd n D a b x else if c = 2 then a x + b x else a x - b x) % p) :: t
    | _ => [])
def wkN (n D p : Int) (CO CI : Int → Int) (c0 : Int) : Nat → List (Int → Int)
  | 0 => []
  | k + 1 => wkst n D p (CO (c0 + k)) (CI (c0 + k)) (wkN n D p CO CI c0 k)
theorem wkN_c {n D p c0 : Int} {CO CI CO' CI' : Int → Int} : ∀ k : Nat, (∀ j : Int, c0 ≤ j → j < c0 + k → CO j = CO' j ∧ CI j = CI' j) → wkN n D p CO CI c0 k = wkN n D p CO' CI' c0 k
  | 0, _ => rfl
  | k + 1, h => by
    show wkst n D p (CO (c0 + k)) (CI (c0 + k)) (wkN n D p CO CI c0 k) = wkst n D p (CO' (c0 + k)) (CI' (c0 + k)) (wkN n D p CO' CI' c0 k)
    rw [wkN_c k (fun j a b => h j a (by omega)), (h (c0 + k) (by omega) (by omega)).1, (h (c0 + k) (by omega) (by omega)).2]
theorem wkN_s {n D p c0 C w v : Int} {CO CI : Int → Int} (h : c0 ≤ C) : wkN n D p (up CO C w) (up CI C v) c0 (C + 1 - c0).toNat = wkst n D p w v (wkN n D p CO CI c0 (C - c0).toNat) := by
  rw [show (C + 1 - c0).toNat = (C - c0).toNat + 1 by omega]
  show wkst n D p (up CO C w (c0 + ((C - c0).toNat : Nat))) (up CI C v (c0 + ((C - c0).toNat : Nat))) (wkN n D p (up CO C w) (up CI C v) c0 (C - c0).toNat) = _
  rw [show c0 + (((C - c0).toNat : Nat) : Int) = C by omega, up_eq, up_eq]
  rw [wkN_c (CO' := CO) (CI' := CI) (C - c0).toNat (fun j a b => ⟨up_ne (by omega), up_ne (by omega)⟩)]
theorem prd_lin {n D c : Int} {a b : Int → Int} (x : Int) : prd n D (fun u => c * a u) b x = c * prd n D a b x := by
  unfold prd
  rw [← sm_mul]
  refine sm_ext _ (fun u _ _ => ?_)
  rw [← sm_mul]
  refine sm_ext _ (fun v _ _ => ?_)
  unfold pTm
  split
  · rw [Int.mul_assoc]
  · rw [Int.mul_zero]
/-- a multiple of one, times a row -/
theorem prd_1 {n D p q s : Int} {b : Int → Int} (hO : sOk n D q) {x : Int} (hx : 0 ≤ x ∧ x < sS n D (D + 1)) : prd n D (uRw p s) b x = s % p * b x := by
  have hS : 1 ≤ sS n D (D + 1) := by
    have := sS_mono (D := D) hO.1.1 (show 1 ≤ D + 1 by have := hO.2.1; omega)
    rw [kl_s1 hO] at this
    exact this
  have h1 := sm_one (f := fun u => sm (fun v => pTm n D (uRw p s) b u v x) (sS n D (D + 1)).toNat) (k := 0) (sS n D (D + 1)).toNat (by omega) (by omega) (fun j _ _ hj => sm_zero _ (fun v _ _ => by
    unfold pTm
    rw [uRw_n p s j hj, Int.zero_mul]
    split <;> rfl))
  refine h1.trans ?_
  have hb : ∀ v, 0 ≤ v → v < sS n D (D + 1) → bAt n D 0 v = v ∧ sL n D v ≤ D := fun v a c => by
    obtain ⟨a1, a2, a3, a4⟩ := sL_w hO a c
    unfold bAt
    rw [kl_l0 hO, sS_0, Int.zero_add, show (0 : Int) - 0 = 0 by decide, Int.zero_mul]
    exact ⟨by omega, a2⟩
  have h2 := sm_one (f := fun v => pTm n D (uRw p s) b 0 v x) (k := x) (sS n D (D + 1)).toNat hx.1 (by omega) (fun j j0 j1 hj => by
    unfold pTm
    rw [if_neg (fun q => hj (by rw [← (hb j j0 (by omega)).1]; exact q.2))])
  refine h2.trans ?_
  show pTm n D (uRw p s) b 0 x x = _
  unfold pTm
  have k := hb x hx.1 hx.2
  rw [kl_l0 hO, Int.zero_add, if_pos ⟨k.2, k.1⟩, uRw_0]
def sgM (m : Int) : Int := if m = 0 then 1 else -1
/-- one level of brackets: its sum so far (if there is one), its product so far (if there is one) -/
def lvR (A p h f m : Int) (S T : Int → Int) (st rest : List (Int → Int)) : Prop := ∃ st1, ((f ≤ 0 ∧ st = st1 ∧ ∀ x, 0 ≤ x → x < A → T x = uRw p (sgM m) x) ∨ (0 < f ∧ ∃ r, st = r :: st1 ∧ ∀ x, 0 ≤ x → x < A → (0 ≤ r x ∧ r x < p) ∧ mE p (T x) (sgM m * r x))) ∧ ((h = 0 ∧ st1 = rest ∧ ∀ x, 0 ≤ x → x < A → S x = 0) ∨ (¬ h = 0 ∧ ∃ q, st1 = q :: rest ∧ ∀ x, 0 ≤ x → x < A → q x = S x ∧ 0 ≤ S x ∧ S x < p))
section LV
variable {n D p h f m v : Int} {S T S' T' e : Int → Int} {st rest : List (Int → Int)}
theorem sgM_m (m p a : Int) : mE p (sgM m % p * a) (sgM m * a) := mE_mul (mE_emod p _) (mE_rfl p a)
theorem lv_int (hO : sOk n D p) (h0 : lvR (sS n D (D + 1)) p h f m S T st rest) (hf : f ≤ 0) (hT : ∀ x, 0 ≤ x → x < sS n D (D + 1) → T' x = (T x * v) % p) : lvR (sS n D (D + 1)) p h 1 m S T' (wkst n D p 0 v st) rest := by
  have hp : 0 < p := by have := hO.2.2.2.1; omega
  obtain ⟨st1, h1, h2⟩ := h0
  refine ⟨st1, .inr ⟨by decide, (fun x => if x = 0 then v % p else 0), ?_, fun x x0 x1 => ?_⟩, h2⟩
  · rcases h1 with ⟨_, e, _⟩ | ⟨g, _⟩
    · rw [← e]; rfl
    · omega
  · rcases h1 with ⟨_, _, g⟩ | ⟨g, _⟩
    · dsimp only
      rw [hT x x0 x1, g x x0 x1]
      by_cases c : x = 0
      · rw [c, uRw_0, if_pos rfl]
        refine ⟨md_lt hp, mE_trans (mE_emod p _) ?_⟩
        exact mE_mul (mE_emod p _) (mE_symm (mE_emod p _))
      · rw [uRw_n p _ x c, if_neg c]
        exact ⟨by omega, mE_of (by rw [Int.zero_mul, Int.mul_zero]; exact Int.zero_emod p)⟩
    · omega
theorem lv_mul {e' : Int → Int} (hO : sOk n D p) (h0 : lvR (sS n D (D + 1)) p h f m S T st rest) (hf : 0 ≤ f) (he : ∀ x, 0 ≤ x → x < sS n D (D + 1) → e' x = e x ∧ 0 ≤ e x ∧ e x < p) (hT : ∀ x, 0 ≤ x → x < sS n D (D + 1) → T' x = prd n D T e x % p) : lvR (sS n D (D + 1)) p h (f + 1) m S T' (if 0 < f then wkst n D p 4 0 (e' :: st) else e' :: st) rest := by
  have hp : 0 < p := by have := hO.2.2.2.1; omega
  obtain ⟨st1, h1, h2⟩ := h0
  rcases h1 with ⟨g, e1, g2⟩ | ⟨g, r, e1, g2⟩
  · rw [if_neg (by omega)]
    refine ⟨st1, .inr ⟨by omega, e', by rw [e1], fun x x0 x1 => ?_⟩, h2⟩
    have k := he x x0 x1
    rw [k.1]
    refine ⟨k.2, ?_⟩
    rw [hT x x0 x1]
    refine mE_trans (mE_emod p _) ?_
    refine mE_trans (prd_c (q := p) (a' := uRw p (sgM m)) (b' := e) (fun y a c => mE_of (g2 y a c)) (fun y _ _ => mE_rfl p _) x) ?_
    rw [prd_1 hO ⟨x0, x1⟩]
    exact sgM_m m p _
  · rw [if_pos g, e1]
    refine ⟨st1, .inr ⟨by omega, _, rfl, fun x x0 x1 => ?_⟩, h2⟩
    show (0 ≤ prd n D r e' x % p ∧ prd n D r e' x % p < p) ∧ mE p (T' x) (sgM m * (prd n D r e' x % p))
    refine ⟨md_lt hp, ?_⟩
    rw [hT x x0 x1]
    refine mE_trans (mE_emod p _) (mE_trans (prd_c (q := p) (a' := fun u => sgM m * r u) (b' := e') (fun y a c => (g2 y a c).2) (fun y a c => mE_of (he y a c).1.symm) x) ?_)
    rw [prd_lin]
    exact mE_mul (mE_rfl p _) (mE_symm (mE_emod p _))
theorem lv_et (hO : sOk n D p) (h0 : lvR (sS n D (D + 1)) p h f m S T st rest) (hf : 0 < f) (hS : ∀ x, 0 ≤ x → x < sS n D (D + 1) → S' x = (S x + T x) % p) : ∃ q, (if h = 0 then (if m = 0 then st else wkst n D p 5 0 st) else wkst n D p (if m = 0 then 2 else 3) 0 st) = q :: rest ∧ ∀ x, 0 ≤ x → x < sS n D (D + 1) → q x = S' x ∧ 0 ≤ S' x ∧ S' x < p := by
  have hp : 0 < p := by have := hO.2.2.2.1; omega
  obtain ⟨st1, h1, h2⟩ := h0
  rcases h1 with ⟨g, _⟩ | ⟨g, r, e1, g2⟩
  · omega
  have hb : ∀ x, 0 ≤ x → x < sS n D (D + 1) → 0 ≤ S' x ∧ S' x < p := fun x a c => by rw [hS x a c]; exact md_lt hp
  rcases h2 with ⟨k, e2, k2⟩ | ⟨k, q, e2, k2⟩
  · rw [if_pos k]
    by_cases c : m = 0
    · rw [if_pos c]
      refine ⟨r, by rw [e1, e2], fun x a d => ⟨?_, hb x a d⟩⟩
      have g3 := g2 x a d
      rw [hS x a d, k2 x a d, Int.zero_add, mE_mod g3.2, sgM, if_pos c, Int.one_mul, Int.emod_eq_of_lt g3.1.1 g3.1.2]
    · rw [if_neg c, e1, e2]
      refine ⟨_, rfl, fun x a d => ⟨?_, hb x a d⟩⟩
      have g3 := g2 x a d
      show (-r x) % p = S' x
      rw [hS x a d, k2 x a d, Int.zero_add, mE_mod g3.2, sgM, if_neg c]
      congr 1
      omega
  · rw [if_neg k, e1, e2]
    by_cases c : m = 0
    · rw [if_pos c]
      refine ⟨_, rfl, fun x a d => ⟨?_, hb x a d⟩⟩
      have g3 := g2 x a d
      have k3 := k2 x a d
      show (q x + r x) % p = S' x
      rw [hS x a d, k3.1]
      refine (mE_mod (mE_add (mE_rfl p (S x)) ?_)).symm
      rw [sgM, if_pos c, Int.one_mul] at g3
      exact g3.2
    · rw [if_neg c]
      refine ⟨_, rfl, fun x a d => ⟨?_, hb x a d⟩⟩
      have g3 := g2 x a d
      have k3 := k2 x a d
      show (q x - r x) % p = S' x
      rw [hS x a d, k3.1]
      refine (mE_mod (mE_trans (mE_add (mE_rfl p (S x)) g3.2) (mE_of ?_))).symm
      rw [sgM, if_neg c]
      omega
end LV
