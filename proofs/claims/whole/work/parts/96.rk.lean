/-! ranks: more unknowns than equations have a solution that is not nought; rows in a span of fewer are dependent -/
theorem sm_upd {f : Int → Int} {a v : Int} : ∀ m : Nat, 0 ≤ a → a < m → sm (up f a v) m = sm f m - f a + v
  | 0, h0, h1 => by omega
  | m + 1, h0, h1 => by
    show sm (up f a v) m + up f a v m = sm f m + f m - f a + v
    by_cases c : a = m
    · have e : sm (up f a v) m = sm f m := sm_ext m (fun j g0 g1 => up_ne (by omega))
      rw [e, ← c, up_eq]; omega
    · rw [sm_upd m h0 (by omega), up_ne (show (m : Int) ≠ a by omega)]; omega
def swp (a b k : Int) : Int := if k = a then b else if k = b then a else k
theorem sm_swp {f : Int → Int} {a : Int} (m : Nat) (h0 : 0 ≤ a) (h1 : a < (m : Int) + 1) : sm (fun k => f (swp a m k)) (m + 1) = sm f (m + 1) := by
  show sm (fun k => f (swp a m k)) m + f (swp a m m) = sm f m + f m
  by_cases c : a = m
  · have e : sm (fun k => f (swp a m k)) m = sm f m := sm_ext m (fun j g0 g1 => by
      show f (swp a m j) = f j
      unfold swp
      rw [if_neg (by omega), if_neg (by omega)])
    have e2 : swp a m m = m := by unfold swp; rw [if_pos c.symm]
    rw [e, e2]
  · have e : sm (fun k => f (swp a m k)) m = sm (up f a (f m)) m := sm_ext m (fun j g0 g1 => by
      show f (swp a m j) = up f a (f m) j
      unfold swp up
      by_cases g : j = a
      · rw [if_pos g, if_pos g]
      · rw [if_neg g, if_neg g, if_neg (by omega)])
    have e2 : swp a m m = a := by unfold swp; rw [if_neg (fun g => c g.symm), if_pos rfl]
    rw [e, e2, sm_upd m h0 (by omega)]; omega
theorem swp_swp {a b : Int} (k : Int) : swp a b (swp a b k) = k := by
  unfold swp
  by_cases h1 : k = a
  · rw [if_pos h1]
    by_cases h2 : b = a
    · rw [if_pos h2]; omega
    · rw [if_neg h2, if_pos rfl]; omega
  · rw [if_neg h1]
    by_cases h2 : k = b
    · rw [if_pos h2, if_pos rfl]; omega
    · rw [if_neg h2, if_neg h1, if_neg h2]
theorem hom_sol {p : Int} (hp : sPr p) : ∀ (r n : Nat) (B : Int → Int → Int), r < n → ∃ x : Int → Int, (∃ k : Int, 0 ≤ k ∧ k < n ∧ ¬ p ∣ x k) ∧ ∀ l : Int, 0 ≤ l → l < r → p ∣ sm (fun k => x k * B k l) n
  | 0, n, B, h => by
    refine ⟨fun _ => 1, ⟨0, Int.le_refl 0, by omega, fun g => ?_⟩, fun l a b => by omega⟩
    have g : p ∣ (1 : Int) := g
    have := Int.le_of_dvd (by decide) g
    have := hp.1
    omega
  | r + 1, n, B, h => by
    obtain ⟨m, rfl⟩ : ∃ m, n = m + 1 := ⟨n - 1, by omega⟩
    by_cases hz : ∀ k : Int, 0 ≤ k → k < (m + 1 : Nat) → p ∣ B k r
    · obtain ⟨x, hx, hl⟩ := hom_sol hp r (m + 1) B (by omega)
      refine ⟨x, hx, fun l a b => ?_⟩
      by_cases c : l = r
      · rw [c]
        have h1 : mE p (sm (fun k => x k * B k r) (m + 1)) (sm (fun _ => 0) (m + 1)) := mE_sm _ (fun k g0 g1 => mE_0.mpr (Int.dvd_mul_of_dvd_right (hz k g0 g1)))
        rw [sm_zero _ (fun _ _ _ => rfl)] at h1
        exact mE_0.mp h1
      · exact hl l a (by omega)
    · obtain ⟨a, ha⟩ := Classical.not_forall.mp hz
      have ⟨a0, ha⟩ := Classical.not_imp.mp ha
      have ⟨a1, ha⟩ := Classical.not_imp.mp ha
      obtain ⟨i, hi⟩ := pr_iv hp ha
      -- the pivot goes to the last place
      have e2 : swp a m m = a := by
        unfold swp
        by_cases c : (m : Int) = a
        · rw [if_pos c]; exact c
        · rw [if_neg c, if_pos rfl]
      obtain ⟨y, ⟨k, k0, k1, k2⟩, hl⟩ := hom_sol hp r m (fun k l => B (swp a m k) l - B (swp a m k) r * i * B a l) (by omega)
      -- the solution on the new places
      have key : ∀ l : Int, mE p (sm (fun k => (if k = m then -(i * sm (fun t => y t * B (swp a m t) r) m) else y k) * B (swp a m k) l) (m + 1)) (sm (fun k => y k * (B (swp a m k) l - B (swp a m k) r * i * B a l)) m) := fun l => by
        have e3 : sm (fun k => (if k = m then -(i * sm (fun t => y t * B (swp a m t) r) m) else y k) * B (swp a m k) l) m = sm (fun k => y k * B (swp a m k) l) m := sm_ext m (fun j g0 g1 => by
          show (if j = (m : Int) then _ else y j) * _ = _
          rw [if_neg (by omega)])
        have e4 : sm (fun k => y k * (B (swp a m k) l - B (swp a m k) r * i * B a l)) m = sm (fun k => y k * B (swp a m k) l) m + (-(i * B a l)) * sm (fun t => y t * B (swp a m t) r) m := by
          rw [← sm_mul, ← sm_add]
          exact sm_ext m (fun j _ _ => by grind)
        refine mE_of ?_
        show sm (fun k => (if k = m then -(i * sm (fun t => y t * B (swp a m t) r) m) else y k) * B (swp a m k) l) m + (if (m : Int) = m then -(i * sm (fun t => y t * B (swp a m t) r) m) else y m) * B (swp a m m) l = _
        rw [e3, e4, if_pos rfl, e2]
        grind
      refine ⟨fun k => if swp a m k = m then -(i * sm (fun t => y t * B (swp a m t) r) m) else y (swp a m k), ⟨swp a m k, ?_, ?_, ?_⟩, fun l l0 l1 => ?_⟩
      · unfold swp; split <;> (try split) <;> omega
      · unfold swp; split <;> (try split) <;> omega
      · show ¬ p ∣ (if swp a m (swp a m k) = m then _ else y (swp a m (swp a m k)))
        rw [swp_swp, if_neg (by omega)]
        exact k2
      · have e5 : sm (fun k => (if swp a m k = m then -(i * sm (fun t => y t * B (swp a m t) r) m) else y (swp a m k)) * B k l) (m + 1) = sm (fun k => (if k = m then -(i * sm (fun t => y t * B (swp a m t) r) m) else y k) * B (swp a m k) l) (m + 1) := by
          rw [← sm_swp (f := fun k => (if k = m then -(i * sm (fun t => y t * B (swp a m t) r) m) else y k) * B (swp a m k) l) m a0 (by omega)]
          exact sm_ext _ (fun j _ _ => by
            show _ = (if swp a m j = m then _ else y (swp a m j)) * B (swp a m (swp a m j)) l
            rw [swp_swp])
        show p ∣ sm (fun k => (if swp a m k = m then -(i * sm (fun t => y t * B (swp a m t) r) m) else y (swp a m k)) * B k l) (m + 1)
        rw [e5]
        refine mE_0.mp (mE_trans (key l) ?_)
        by_cases c : l = r
        · rw [c]
          -- the pivot's own equation
          have h1 : mE p (sm (fun k => y k * (B (swp a m k) r - B (swp a m k) r * i * B a r)) m) (sm (fun _ => 0) m) := mE_sm m (fun k _ _ => by
            have h2 := mE_mul (mE_rfl p (B (swp a m k) r)) hi
            have h3 := mE_mul (mE_rfl p (y k)) (mE_sub (mE_rfl p (B (swp a m k) r)) h2)
            refine mE_trans (mE_of ?_) (mE_trans h3 (mE_of ?_))
            · grind
            · grind)
          rw [sm_zero _ (fun _ _ _ => rfl)] at h1
          exact h1
        · exact mE_0.mpr (hl l l0 (by omega))
