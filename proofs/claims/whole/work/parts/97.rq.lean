/-! ranks: by rows and by columns they are the same -/
def ind (p : Int) (w r : Nat) (E : Int → Int → Int) : Prop := ∀ x : Int → Int, (∀ j : Int, 0 ≤ j → j < w → mE p (sm (fun k => x k * E k j) r) 0) → ∀ k : Int, 0 ≤ k → k < r → p ∣ x k
theorem sm_at {p : Int} {f : Int → Int} {k : Int} (m : Nat) (h0 : 0 ≤ k) (h1 : k < m) (h : ∀ j : Int, 0 ≤ j → j < m → ¬ j = k → mE p (f j) 0) : mE p (sm f m) (f k) := by
  have e : sm (fun j => if j = k then f k else 0) m = f k := by
    rw [sm_one m h0 h1 (fun j _ _ g => if_neg g), if_pos rfl]
  rw [← e]
  refine mE_sm m (fun j g0 g1 => ?_)
  show mE p (f j) (if j = k then f k else 0)
  by_cases c : j = k
  · rw [if_pos c, c]; exact mE_rfl p _
  · rw [if_neg c]; exact h j g0 g1 c
/-- rows with different first places are independent -/
theorem ind_of {p : Int} (hp : sPr p) {w r : Nat} {E : Int → Int → Int} {v : Int → Int} (h1 : ∀ k : Int, 0 ≤ k → k < r → 0 ≤ v k ∧ v k < w ∧ ¬ p ∣ E k (v k) ∧ ∀ j : Int, 0 ≤ j → j < v k → mE p (E k j) 0)
    (h2 : ∀ a b : Int, 0 ≤ a → a < r → 0 ≤ b → b < r → v a = v b → a = b) : ind p w r E := by
  intro x hx
  have key : ∀ t : Nat, ∀ k : Int, 0 ≤ k → k < r → v k < t → p ∣ x k := by
    intro t
    induction t with
    | zero => intro k k0 k1 g; have := (h1 k k0 k1).1; omega
    | succ t ih =>
      intro k k0 k1 g
      obtain ⟨a0, a1, a2, a3⟩ := h1 k k0 k1
      have h := hx (v k) a0 a1
      have g2 : mE p (sm (fun l => x l * E l (v k)) r) (x k * E k (v k)) := sm_at (f := fun l => x l * E l (v k)) r k0 k1 (fun l l0 l1 c => by
        by_cases d : v l < v k
        · exact mE_0.mpr (Int.dvd_mul_of_dvd_left (ih l l0 l1 (by omega)))
        · have g5 : ¬ v l = v k := fun e => c (h2 l k l0 l1 k0 k1 e)
          have h3 := (h1 l l0 l1).2.2.2 (v k) a0 (by omega)
          exact mE_0.mpr (Int.dvd_mul_of_dvd_right (mE_0.mp h3)))
      have g3 := mE_0.mp (mE_trans (mE_symm g2) h)
      rw [Int.mul_comm] at g3
      exact pr_mul hp g3 a2
  intro k k0 k1
  exact key w k k0 k1 (h1 k k0 k1).2.1
/-- independent rows are no more than the rows that they are made of -/
theorem ind_le {p : Int} (hp : sPr p) {w r s : Nat} {E F B : Int → Int → Int} (h : ind p w r E)
    (hB : ∀ k j : Int, 0 ≤ k → k < r → 0 ≤ j → j < w → mE p (E k j) (sm (fun l => B k l * F l j) s)) : r ≤ s := by
  by_cases c : s < r
  · obtain ⟨x, ⟨k, k0, k1, k2⟩, hl⟩ := hom_sol hp s r B c
    refine absurd (h x (fun j j0 j1 => ?_) k k0 k1) k2
    have h1 : mE p (sm (fun k => x k * E k j) r) (sm (fun k => sm (fun l => x k * (B k l * F l j)) s) r) := mE_sm r (fun t t0 t1 => by
      show mE p (x t * E t j) (sm (fun l => x t * (B t l * F l j)) s)
      rw [sm_mul]
      exact mE_mul (mE_rfl p _) (hB t j t0 t1 j0 j1))
    refine mE_trans h1 ?_
    rw [sm_swap]
    have h2 : mE p (sm (fun l => sm (fun k => x k * (B k l * F l j)) r) s) (sm (fun _ => 0) s) := mE_sm s (fun l l0 l1 => by
      show mE p (sm (fun k => x k * (B k l * F l j)) r) 0
      have e : sm (fun k => x k * (B k l * F l j)) r = F l j * sm (fun k => x k * B k l) r := by
        rw [← sm_mul]
        exact sm_ext r (fun t _ _ => by grind)
      rw [e]
      exact mE_0.mpr (Int.dvd_mul_of_dvd_right (hl l l0 l1)))
    rw [sm_zero s (fun _ _ _ => rfl)] at h2
    exact h2
  · omega
/-- the same sum taken either way -/
theorem sm_3 {p : Int} {a : Int → Int} {P E : Int → Int → Int} {A : Int → Int} {w r : Nat} (h : ∀ j : Int, 0 ≤ j → j < w → mE p (A j) (sm (fun k => P 0 k * E k j) r)) :
    mE p (sm (fun j => A j * a j) w) (sm (fun k => (sm (fun j => E k j * a j) w) * P 0 k) r) := by
  have h1 : mE p (sm (fun j => A j * a j) w) (sm (fun j => sm (fun k => a j * (P 0 k * E k j)) r) w) := mE_sm w (fun j j0 j1 => by
    show mE p (A j * a j) (sm (fun k => a j * (P 0 k * E k j)) r)
    rw [sm_mul, Int.mul_comm (A j)]
    exact mE_mul (mE_rfl p _) (h j j0 j1))
  refine mE_trans h1 (mE_of ?_)
  rw [sm_swap]
  refine sm_ext r (fun k _ _ => ?_)
  show sm (fun j => a j * (P 0 k * E k j)) w = (sm (fun j => E k j * a j) w) * P 0 k
  rw [Int.mul_comm, ← sm_mul]
  exact sm_ext w (fun j _ _ => by grind)
/-- columns that are independent and made of the columns of A are no more than rows that A's rows are made of -/
theorem rank_le {p : Int} (hp : sPr p) {m w r s : Nat} {A E F P T : Int → Int → Int}
    (hF : ind p m s F) (hT : ∀ l i : Int, 0 ≤ l → l < s → 0 ≤ i → i < m → mE p (F l i) (sm (fun j => A i j * T l j) w))
    (hP : ∀ i j : Int, 0 ≤ i → i < m → 0 ≤ j → j < w → mE p (A i j) (sm (fun k => P i k * E k j) r)) : s ≤ r :=
  ind_le hp (F := fun k i => P i k) (B := fun l k => sm (fun j => E k j * T l j) w) hF (fun l i l0 l1 i0 i1 =>
    mE_trans (hT l i l0 l1 i0 i1) (sm_3 (P := fun _ k => P i k) (fun j j0 j1 => hP i j i0 i1 j0 j1)))
/-- the rank by rows (r rows E) and by columns (s columns F; all, or those that span A's columns) are the same -/
theorem rank_eq {p : Int} (hp : sPr p) {m w r s : Nat} {A E F P Q T R : Int → Int → Int}
    (hE : ind p w r E) (hF : ind p m s F)
    (hQ : ∀ k j : Int, 0 ≤ k → k < r → 0 ≤ j → j < w → mE p (E k j) (sm (fun i => A i j * Q k i) m))
    (hP : ∀ i j : Int, 0 ≤ i → i < m → 0 ≤ j → j < w → mE p (A i j) (sm (fun k => P i k * E k j) r))
    (hT : ∀ l i : Int, 0 ≤ l → l < s → 0 ≤ i → i < m → mE p (F l i) (sm (fun j => A i j * T l j) w))
    (hR : s = m ∨ ∀ i j : Int, 0 ≤ i → i < m → 0 ≤ j → j < w → mE p (A i j) (sm (fun l => R j l * F l i) s)) : r = s := by
  have h1 := rank_le hp hF hT hP
  have h2 : r ≤ s := by
    cases hR with
    | inl h =>
      rw [h]
      exact ind_le hp (F := A) (B := Q) hE (fun k j k0 k1 j0 j1 => by
        rw [show sm (fun l => Q k l * A l j) m = sm (fun i => A i j * Q k i) m from sm_ext m (fun t _ _ => Int.mul_comm _ _)]
        exact hQ k j k0 k1 j0 j1)
    | inr h =>
      exact rank_le hp (A := fun j i => A i j) (P := R) (E := F) hE hQ (fun j i j0 j1 i0 i1 => h i j i0 i1 j0 j1)
  omega
