/-! ways by their first letter: all squares of a kind at once -/
section WFC
variable {s p n D f k : Int} {LN LR : Int → Int} {m : Int}
theorem wwQ_c {LT V : Int → Int} {c c' a a' t : Int} (h : wwQ s p n D LT LN m LR f k V c a t) (ec : c' = c) (e : a' = a) : wwQ s p n D LT LN m LR f k V c' a' t := by
  subst ec; subst e; exact h
theorem NwC_orb {v : Int} (hp : 2 ≤ p) (hn : 0 < n) (h : orb s p k v) : NwC s p n D LN m LR f v = NwC s p n D LN m LR f k := Nw_orb hp hn h
theorem Aq_N : Aq (sqN s p) n (HWc s p n D LN m LR) f (fun _ => 0) = sm (fun a => if 0 < a then NwC s p n D LN m LR f a else 0) (sqN s p).toNat := rfl
theorem orb_1 (hp : sPr p) {a : Int} (ha : 1 ≤ a ∧ a < p) : orb 1 p 1 a := by
  obtain ⟨i, i1, i2, i3⟩ := pr_inv hp ha.1 ha.2
  refine ⟨a, i, q2I, q2I, ⟨q2E_of (q2_Il _), mE_ofmod (by rw [Int.mul_comm, i3, Int.emod_eq_of_lt (by decide) (by have := hp.1; omega)]), fun _ => ⟨rfl, rfl⟩⟩, ?_⟩
  unfold pi4 tr4 io rh
  rw [if_pos rfl, if_pos rfl, q2_Il, q2_Ir]
  show a = (a * 1) % p
  rw [Int.mul_one, Int.emod_eq_of_lt (by omega) ha.2]
theorem sm_const {c : Int} : ∀ m : Nat, sm (fun a => if 0 < a then c else 0) m = (if 1 ≤ m then ((m : Int) - 1) * c else 0)
  | 0 => by rw [if_neg (by decide)]; rfl
  | m + 1 => by
    show sm (fun a => if 0 < a then c else 0) m + (if (0 : Int) < (m : Int) then c else 0) = _
    rw [sm_const m, if_pos (show 1 ≤ m + 1 by omega)]
    by_cases g : 1 ≤ m
    · rw [if_pos g, if_pos (show (0 : Int) < (m : Int) by omega), show (((m + 1 : Nat) : Int) - 1) = ((m : Int) - 1) + 1 by omega, Int.add_mul, Int.one_mul]
    · rw [if_neg g, if_neg (show ¬ (0 : Int) < (m : Int) by omega), show m = 0 by omega]
      show (0 : Int) + 0 = (((0 + 1 : Nat) : Int) - 1) * c
      rw [show ((0 + 1 : Nat) : Int) - 1 = 0 by decide, Int.zero_mul]; rfl
theorem wf_1 (hp : sPr p) (hn : 0 < n) : (p - 1) * NwC 1 p n D LN m LR f 1 = Aq (sqN 1 p) n (HWc 1 p n D LN m LR) f (fun _ => 0) := by
  have h2 := hp.1
  have e : sqN 1 p = p := if_pos rfl
  rw [Aq_N, e]
  have e2 : sm (fun a => if 0 < a then NwC 1 p n D LN m LR f a else 0) p.toNat = sm (fun a => if 0 < a then NwC 1 p n D LN m LR f 1 else 0) p.toNat := sm_ext _ (fun a a0 a1 => by
    by_cases g : 0 < a
    · rw [if_pos g, if_pos g, NwC_orb h2 hn (orb_1 hp (by omega))]
    · rw [if_neg g, if_neg g])
  rw [e2, sm_const, if_pos (by omega), show ((p.toNat : Nat) : Int) = p by omega]
/-- the marks and the ways so far -/
def wfI (s p n D : Int) (LN : Int → Int) (m : Int) (LR : Int → Int) (f : Int) (SE : Int → Int) (c k : Int) : Prop := R01 SE ∧ SE 0 = 0 ∧ (∀ v, (v < 0 ∨ sqN s p ≤ v) → SE v = 0 ∨ v < 0 ∨ 81 ≤ v) ∧ (∀ v, 1 ≤ v → v < k → v < sqN s p → SE v = 1) ∧ c = sm (fun v => SE v * NwC s p n D LN m LR f v) 81
theorem wf_0 {SE : Int → Int} (h : ∀ v, 0 ≤ v → v < 81 → SE v = 0) (h01 : R01 SE) : wfI s p n D LN m LR f SE 0 1 :=
  ⟨h01, h 0 (by decide) (by decide), fun v _ => by
    by_cases g : 0 ≤ v ∧ v < 81
    · exact .inl (h v g.1 g.2)
    · omega, fun v a b _ => by omega, by rw [sm_zero 81 (fun v a b => by rw [h v a (by omega), Int.zero_mul])]⟩
theorem wf_skip {SE : Int → Int} {c : Int} (h : wfI s p n D LN m LR f SE c k) (hk : SE k = 1) : wfI s p n D LN m LR f SE c (k + 1) :=
  ⟨h.1, h.2.1, h.2.2.1, fun v a b d => by
    by_cases e : v = k
    · rw [e]; exact hk
    · exact h.2.2.2.1 v a (by omega) d, h.2.2.2.2⟩
theorem wf_step (hp : 2 ≤ p) (hn : 0 < n) {SE SE' : Int → Int} {c r : Int} (h : wfI s p n D LN m LR f SE c k) (hk : 0 < k ∧ k < sqN s p) (hM : mkI s p k SE SE') (hr : r = sm (fun x => SE' x - SE x) 81) (hk1 : SE' k = 1) : wfI s p n D LN m LR f SE' (c + r * NwC s p n D LN m LR f k) (k + 1) := by
  obtain ⟨h1, h2, h3, h4, h5⟩ := h
  have mono : ∀ v, SE v = 1 → SE' v = 1 := fun v g => by
    by_cases e : SE' v = SE v
    · rw [e]; exact g
    · have := (hM.2 v e).1; omega
  refine ⟨hM.1, ?_, fun v a => ?_, fun v a b d => ?_, ?_⟩
  · by_cases e : SE' 0 = SE 0
    · rw [e]; exact h2
    · exact absurd rfl (orb_ne hp hk (hM.2 0 e).2)
  · by_cases e : SE' v = SE v
    · rw [e]; exact h3 v a
    · have := orb_b hp (hM.2 v e).2; omega
  · by_cases e : v = k
    · rw [e]; exact hk1
    · exact mono v (h4 v a (by omega) d)
  · rw [h5, hr]
    have e : sm (fun x => SE' x - SE x) 81 * NwC s p n D LN m LR f k = sm (fun v => (SE' v - SE v) * NwC s p n D LN m LR f v) 81 := by
      rw [Int.mul_comm, ← sm_mul]
      refine sm_ext _ (fun v _ _ => ?_)
      show NwC s p n D LN m LR f k * (SE' v - SE v) = (SE' v - SE v) * NwC s p n D LN m LR f v
      by_cases e : SE' v = SE v
      · rw [e, Int.sub_self, Int.mul_zero, Int.zero_mul]
      · rw [NwC_orb hp hn (hM.2 v e).2, Int.mul_comm]
    rw [e, ← sm_add]
    refine sm_ext _ (fun v _ _ => ?_)
    show SE v * NwC s p n D LN m LR f v + (SE' v - SE v) * NwC s p n D LN m LR f v = SE' v * NwC s p n D LN m LR f v
    rw [Int.sub_mul]; omega
theorem wf_fin {SE : Int → Int} {c : Int} (h : wfI s p n D LN m LR f SE c k) (hS : 0 ≤ sqN s p ∧ sqN s p ≤ 81) (hk : sqN s p ≤ k) : c = Aq (sqN s p) n (HWc s p n D LN m LR) f (fun _ => 0) := by
  obtain ⟨h1, h2, h3, h4, h5⟩ := h
  rw [Aq_N, h5, show (81 : Nat) = (sqN s p).toNat + (81 - (sqN s p).toNat) by omega, sm_cat, sm_zero (81 - (sqN s p).toNat) (fun v a b => by
    have := h3 (((sqN s p).toNat : Int) + v) (by omega)
    rw [show SE (((sqN s p).toNat : Int) + v) = 0 by omega, Int.zero_mul]), Int.add_zero]
  refine sm_ext _ (fun v a b => ?_)
  show SE v * NwC s p n D LN m LR f v = if 0 < v then NwC s p n D LN m LR f v else 0
  by_cases g : 0 < v
  · rw [if_pos g, h4 v (by omega) (by omega) (by omega), Int.one_mul]
  · rw [if_neg g, show v = 0 by omega, h2, Int.zero_mul]
end WFC
