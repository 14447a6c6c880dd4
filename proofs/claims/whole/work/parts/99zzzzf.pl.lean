/-! the reference's pile in its memory -/
def plR (A : Int) (P : Int → Int) : Nat → List (Int → Int) → Prop
  | 0, st => st = []
  | k + 1, st => ∃ r rest, st = r :: rest ∧ (∀ x, 0 ≤ x → x < A → P (400 * k + x) = r x) ∧ plR A P k rest
theorem plR_c {A : Int} {P P' : Int → Int} (hA : A ≤ 400) : ∀ (k : Nat) (st : List (Int → Int)), plR A P k st → (∀ y : Int, 0 ≤ y → y < 400 * (k : Int) → P' y = P y) → plR A P' k st
  | 0, _, h, _ => h
  | k + 1, st, ⟨r, rest, h1, h2, h3⟩, e => ⟨r, rest, h1, fun x a b => by rw [e _ (by omega) (by omega)]; exact h2 x a b, plR_c hA k rest h3 (fun y a b => e y a (by omega))⟩
theorem okK_at {lm c0 c : Int} {m : Nat} {CO CI : Int → Int} (h : okK lm CO CI c0 m) (a : c0 ≤ c) (b : c < c0 + m) : okC1 lm (CO c) (CI c) (dKn CO c0 (c - c0).toNat) := by
  have k := h (c - c0).toNat (by omega)
  rw [show c0 + (((c - c0).toNat : Nat) : Int) = c by omega] at k
  exact k
theorem wkN_n {n D p c0 c : Int} {CO CI : Int → Int} (a : c0 ≤ c) : wkN n D p CO CI c0 (c + 1 - c0).toNat = wkst n D p (CO c) (CI c) (wkN n D p CO CI c0 (c - c0).toNat) := by
  rw [show (c + 1 - c0).toNat = (c - c0).toNat + 1 by omega]
  show wkst n D p (CO (c0 + ((c - c0).toNat : Nat))) (CI (c0 + ((c - c0).toNat : Nat))) _ = _
  rw [show c0 + (((c - c0).toNat : Nat) : Int) = c by omega]
theorem dKn_n {c0 c : Int} {CO : Int → Int} (a : c0 ≤ c) : dKn CO c0 (c + 1 - c0).toNat = dKs (CO c) (dKn CO c0 (c - c0).toNat) := by
  rw [show (c + 1 - c0).toNat = (c - c0).toNat + 1 by omega]
  show dKs (CO (c0 + ((c - c0).toNat : Nat))) _ = _
  rw [show c0 + (((c - c0).toNat : Nat) : Int) = c by omega]
theorem prd_f {n D p : Int} {a b a' b' : Int → Int} (hO : sOk n D p) (ha : ∀ x, 0 ≤ x → x < sS n D (D + 1) → a x = a' x) (hb : ∀ x, 0 ≤ x → x < sS n D (D + 1) → b x = b' x) (y : Int) : prd n D a b y = prd n D a' b' y := by
  have hs := sS_b (k := D + 1) hO
  refine sm_ext _ (fun u u0 u1 => sm_ext _ (fun v v0 v1 => ?_))
  unfold pTm
  rw [ha u u0 (by omega), hb v v0 (by omega)]
section PLS
variable {n D p top v : Int} {P P' : Int → Int} {st : List (Int → Int)}
theorem pl_0 (hO : sOk n D p) (ht : 0 ≤ top) (h : plR (sS n D (D + 1)) P top.toNat st) (e : P' = up (seg P (400 * top) 400 (fun _ => 0)) (400 * top) (v % p)) : plR (sS n D (D + 1)) P' (top + 1).toNat (wkst n D p 0 v st) := by
  subst e
  have hb := sS_b (k := D + 1) hO
  rw [show (top + 1).toNat = top.toNat + 1 by omega]
  refine ⟨(fun x => if x = 0 then v % p else 0), st, rfl, fun x a b => ?_, plR_c (by omega) top.toNat st h (fun y a b => by rw [up_ne (by omega), seg_out (by omega)])⟩
  rw [show ((top.toNat : Nat) : Int) = top by omega]
  by_cases c : x = 0
  · rw [c, Int.add_zero, up_eq]; rfl
  · rw [up_ne (by omega), seg_in ⟨a, by omega⟩]
    exact (if_neg c).symm
theorem pl_1 (hO : sOk n D p) (ht : 0 ≤ top) (hv : 0 ≤ v ∧ v < n) (h : plR (sS n D (D + 1)) P top.toNat st) (e : P' = up (seg P (400 * top) 400 (fun _ => 0)) (400 * top + sS n D 1 + v) (1 % p)) : plR (sS n D (D + 1)) P' (top + 1).toNat (wkst n D p 1 v st) := by
  subst e
  have hb := sS_b (k := D + 1) hO
  have h1 := kl_s1 hO
  have hO1 := hO.1.2
  rw [show (top + 1).toNat = top.toNat + 1 by omega]
  refine ⟨(fun x => eLt v x % p), st, rfl, fun x a b => ?_, plR_c (by omega) top.toNat st h (fun y a b => by rw [up_ne (by omega), seg_out (by omega)])⟩
  rw [show ((top.toNat : Nat) : Int) = top by omega, h1]
  show _ = eLt v x % p
  unfold eLt
  by_cases c : x = 1 + v
  · rw [if_pos c, c, show 400 * top + 1 + v = 400 * top + (1 + v) by omega, up_eq]
  · rw [if_neg c, up_ne (by omega), seg_in ⟨a, by omega⟩]
    exact (Int.zero_emod p).symm
theorem pl_5 (hO : sOk n D p) (ht : 1 ≤ top) (h : plR (sS n D (D + 1)) P top.toNat st) (e : P' = seg P (400 * top - 400) (sS n D (D + 1)) (fun x => (-P (400 * top - 400 + x)) % p)) : plR (sS n D (D + 1)) P' top.toNat (wkst n D p 5 v st) := by
  subst e
  have hb := sS_b (k := D + 1) hO
  obtain ⟨k, rfl⟩ : ∃ k : Nat, top = (k : Int) + 1 := ⟨(top - 1).toNat, by omega⟩
  rw [show ((k : Int) + 1).toNat = k + 1 by omega] at h ⊢
  obtain ⟨r, rest, rfl, h2, h3⟩ := h
  refine ⟨(fun x => (-r x) % p), rest, rfl, fun x a b => ?_, plR_c (by omega) k rest h3 (fun y a b => by rw [seg_out (by omega)])⟩
  rw [show 400 * ((k : Int) + 1) - 400 = 400 * (k : Int) by omega, seg_in ⟨a, b⟩, h2 x a b]
theorem pl_b {c a0 b0 t' : Int} {g : Int → Int} (hO : sOk n D p) (ht : 2 ≤ top) (hc : c = 4 ∨ c = 2 ∨ c = 3) (ea : a0 = 400 * (top - 2)) (eb : b0 = 400 * (top - 1)) (et : t' = top - 1) (h : plR (sS n D (D + 1)) P top.toNat st) (e : P' = seg P a0 (sS n D (D + 1)) g) (hg : ∀ x, 0 ≤ x → x < sS n D (D + 1) → g x = (if c = 4 then prd n D (fun u => P (a0 + u)) (fun u => P (b0 + u)) x else if c = 2 then P (a0 + x) + P (b0 + x) else P (a0 + x) - P (b0 + x)) % p) : plR (sS n D (D + 1)) P' t'.toNat (wkst n D p c v st) := by
  subst e ea eb et
  have hb := sS_b (k := D + 1) hO
  obtain ⟨k, rfl⟩ : ∃ k : Nat, top = (k : Int) + 2 := ⟨(top - 2).toNat, by omega⟩
  rw [show ((k : Int) + 2).toNat = k + 1 + 1 by omega] at h
  rw [show ((k : Int) + 2 - 1).toNat = k + 1 by omega]
  rw [show (k : Int) + 2 - 2 = k by omega, show (k : Int) + 2 - 1 = ((k + 1 : Nat) : Int) by omega] at hg
  rw [show (k : Int) + 2 - 2 = k by omega]
  obtain ⟨b, rest1, rfl, hb2, a, rest, rfl, ha2, h3⟩ := h
  have e5 : wkst n D p c v (b :: a :: rest) = (fun x => (if c = 4 then prd n D a b x else if c = 2 then a x + b x else a x - b x) % p) :: rest := by
    unfold wkst
    rw [if_neg (by omega), if_neg (by omega), if_neg (by omega)]
  rw [e5]
  refine ⟨_, rest, rfl, fun x x0 x1 => ?_, plR_c (by omega) k rest h3 (fun y a b => by rw [seg_out (by omega)])⟩
  rw [seg_in ⟨x0, x1⟩, hg x x0 x1]
  show _ = (if c = 4 then prd n D a b x else if c = 2 then a x + b x else a x - b x) % p
  rw [hb2 x x0 x1, ha2 x x0 x1, prd_f hO (a := fun u => P (400 * (k : Int) + u)) (b := fun u => P (400 * ((k + 1 : Nat) : Int) + u)) (a' := a) (b' := b) (fun u u0 u1 => ha2 u u0 u1) (fun u u0 u1 => hb2 u u0 u1)]
end PLS
theorem md_97b {p o m : Int} {T g : Int → Int} (hp : 0 < p ∧ p ≤ 97) (h : R97 T) : R97 (seg T o m (fun y => g y % p)) := R97_seg h (fun y _ _ => by have := md_lt (v := g y) hp.1; omega)
