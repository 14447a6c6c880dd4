/-! what the words of a text tell: letters, names, prime, degree, its place, the names' letters -/
abbrev wS := Int × (Int → Int) × Int × Int × Int × (Int → Int)
noncomputable def prF (v : Int) : Int := @ite Int (sPr v) (Classical.propDecidable _) 0 5
def dgF (v : Int) : Int := if 1 ≤ v ∧ v ≤ 7 then 0 else 5
def pvK (K : Int → Int) (i : Int) : Int := if 0 < i then K (i - 1) else 0
def nuF (NU : Int → Int) (i j m : Int) : Int → Int := if j < m then up NU i j else NU
noncomputable def tw (K PL PK : Int → Int) (i : Int) (s : wS) : Int × wS :=
  if K i = 5 then
    (if pvK K i = 2 then
      (if fd s.2.1 (PK i) s.1 < s.1 ∨ 4 ≤ s.1 then (3, (s.1, s.2.1, s.2.2.1, s.2.2.2.1, s.2.2.2.2.1, nuF s.2.2.2.2.2 i (fd s.2.1 (PK i) s.1) s.1)) else (0, (s.1 + 1, up s.2.1 s.1 (PK i), s.2.2)))
    else (if fd s.2.1 (PK i) s.1 < s.1 then 0 else 4, (s.1, s.2.1, s.2.2.1, s.2.2.2.1, s.2.2.2.2.1, nuF s.2.2.2.2.2 i (fd s.2.1 (PK i) s.1) s.1)))
  else if pvK K i = 1 then (prF (s.2.2.2.2.2 i), (s.1, s.2.1, s.2.2.2.2.2 i, s.2.2.2))
  else if pvK K i = 3 then (dgF (s.2.2.2.2.2 i), (s.1, s.2.1, s.2.2.1, s.2.2.2.2.2 i, PL i, s.2.2.2.2.2))
  else (0, s)
noncomputable def twI (K PL PK : Int → Int) (s0 : wS) : Nat → wS
  | 0 => s0
  | k + 1 => (tw K PL PK k (twI K PL PK s0 k)).2
/-- no fault in the first k words -/
def twZ (K PL PK : Int → Int) (s0 : wS) (k : Int) : Prop := ∀ j, 0 ≤ j → j < k → (tw K PL PK j (twI K PL PK s0 j.toNat)).1 = 0
/-- how telling words ends -/
def twO (K PL PK : Int → Int) (s0 : wS) (m r pl : Int) (s' : wS) : Prop := (r = 0 ∧ pl = -1 ∧ twZ K PL PK s0 m ∧ s' = twI K PL PK s0 m.toNat) ∨ ∃ i, (0 ≤ i ∧ i < m) ∧ twZ K PL PK s0 i ∧ ¬ r = 0 ∧ r = (tw K PL PK i (twI K PL PK s0 i.toNat)).1 ∧ pl = PL i ∧ s' = twI K PL PK s0 (i + 1).toNat
section TW
variable {K PL PK NM NU NU' : Int → Int} {i m pr dg dp r : Int}
theorem nu_of (hm : 0 ≤ m) (h : rsQ NM m PK NU NU' i r) : NU' = nuF NU i (fd NM (PK i) m) m ∧ (r = 1 ↔ fd NM (PK i) m < m) ∧ (r = 0 ↔ fd NM (PK i) m = m) := by
  unfold nuF
  rcases h with ⟨a, b, c⟩ | ⟨a, b, c⟩
  · rw [if_neg (by omega)]; exact ⟨c, by omega, by omega⟩
  · rw [if_pos b]; exact ⟨c, by omega, by omega⟩
theorem tw_0 (h5 : ¬ K i = 5) (h1 : ¬ pvK K i = 1) (h3 : ¬ pvK K i = 3) : tw K PL PK i (m, NM, pr, dg, dp, NU) = (0, (m, NM, pr, dg, dp, NU)) := by
  unfold tw
  rw [if_neg h5, if_neg h1, if_neg h3]
theorem tw_1 (h5 : ¬ K i = 5) (h1 : pvK K i = 1) : tw K PL PK i (m, NM, pr, dg, dp, NU) = (prF (NU i), (m, NM, NU i, dg, dp, NU)) := by
  unfold tw
  rw [if_neg h5, if_pos h1]
theorem tw_3 (h5 : ¬ K i = 5) (h3 : pvK K i = 3) : tw K PL PK i (m, NM, pr, dg, dp, NU) = (dgF (NU i), (m, NM, pr, NU i, PL i, NU)) := by
  unfold tw
  rw [if_neg h5, if_neg (by omega), if_pos h3]
theorem tw_n (h5 : K i = 5) (h2 : ¬ pvK K i = 2) : tw K PL PK i (m, NM, pr, dg, dp, NU) = (if fd NM (PK i) m < m then 0 else 4, (m, NM, pr, dg, dp, nuF NU i (fd NM (PK i) m) m)) := by
  unfold tw
  rw [if_pos h5, if_neg h2]
theorem tw_l (h5 : K i = 5) (h2 : pvK K i = 2) (h : ¬ (fd NM (PK i) m < m ∨ 4 ≤ m)) : tw K PL PK i (m, NM, pr, dg, dp, NU) = (0, (m + 1, up NM m (PK i), pr, dg, dp, NU)) := by
  unfold tw
  rw [if_pos h5, if_pos h2, if_neg h]
theorem tw_t (h5 : K i = 5) (h2 : pvK K i = 2) (h : fd NM (PK i) m < m ∨ 4 ≤ m) : tw K PL PK i (m, NM, pr, dg, dp, NU) = (3, (m, NM, pr, dg, dp, nuF NU i (fd NM (PK i) m) m)) := by
  unfold tw
  rw [if_pos h5, if_pos h2, if_pos h]
theorem prF_0 {v : Int} (h : sPr v) : prF v = 0 := if_pos h
theorem prF_5 {v : Int} (h : ¬ sPr v) : prF v = 5 := if_neg h
end TW
/-- what holds of the words told: NU0 are the numbers before -/
def twB (K NU0 : Int → Int) (s : wS) : Prop := (0 ≤ s.1 ∧ s.1 ≤ 4) ∧ (∀ j, 0 ≤ j → j < s.1 → i64 (s.2.1 j)) ∧ (∀ j, ¬ K j = 5 → s.2.2.2.2.2 j = NU0 j)
theorem nuF_o {NU : Int → Int} {i j m x : Int} (h : ¬ x = i) : nuF NU i j m x = NU x := by
  unfold nuF
  split
  · exact up_ne h
  · rfl
theorem tw_B {K PL PK NU0 : Int → Int} {i : Int} {s : wS} (hp : K i = 5 → i64 (PK i)) (h : twB K NU0 s) : twB K NU0 (tw K PL PK i s).2 := by
  obtain ⟨m, NM, pr, dg, dp, NU⟩ := s
  obtain ⟨h1, h2, h3⟩ := h
  dsimp only at h1 h2 h3
  by_cases h5 : K i = 5
  · by_cases c : pvK K i = 2
    · by_cases g : fd NM (PK i) m < m ∨ 4 ≤ m
      · rw [tw_t h5 c g]
        exact ⟨h1, h2, fun j hj => (nuF_o (x := j) (i := i) (fun e => hj (by rw [e]; exact h5))).trans (h3 j hj)⟩
      · rw [tw_l h5 c g]
        refine ⟨by show 0 ≤ m + 1 ∧ m + 1 ≤ 4; omega, fun j a b => ?_, h3⟩
        have b2 : j < m + 1 := b
        by_cases e : j = m
        · show i64 (up NM m (PK i) j)
          rw [e, up_eq]; exact hp h5
        · show i64 (up NM m (PK i) j)
          rw [up_ne e]; exact h2 j a (by omega)
    · rw [tw_n h5 c]
      exact ⟨h1, h2, fun j hj => (nuF_o (x := j) (i := i) (fun e => hj (by rw [e]; exact h5))).trans (h3 j hj)⟩
  · by_cases c : pvK K i = 1
    · rw [tw_1 h5 c]; exact ⟨h1, h2, h3⟩
    · by_cases c3 : pvK K i = 3
      · rw [tw_3 h5 c3]; exact ⟨h1, h2, h3⟩
      · rw [tw_0 h5 c c3]; exact ⟨h1, h2, h3⟩
theorem twI_s {K PL PK : Int → Int} {s0 s : wS} {i : Int} (hi : 0 ≤ i) (h : twI K PL PK s0 i.toNat = s) : twI K PL PK s0 (i + 1).toNat = (tw K PL PK i s).2 := by
  rw [show (i + 1).toNat = i.toNat + 1 by omega]
  show (tw K PL PK (i.toNat : Nat) (twI K PL PK s0 i.toNat)).2 = _
  rw [h, show ((i.toNat : Nat) : Int) = i by omega]
theorem twZ_s {K PL PK : Int → Int} {s0 s : wS} {i : Int} (h : twZ K PL PK s0 i) (e : twI K PL PK s0 i.toNat = s) (g : (tw K PL PK i s).1 = 0) : twZ K PL PK s0 (i + 1) := by
  intro j a b
  by_cases q : j = i
  · rw [q, e]; exact g
  · exact h j a (by omega)
/-- the degree if none is told -/
def gDg (m : Int) : Int := if m ≤ 2 then 7 else if m = 3 then 5 else 4
def dgQ (m dg : Int) : Int := if dg = 0 then gDg m else dg
theorem prF_b (v : Int) : prF v = 0 ∨ prF v = 5 := by
  by_cases h : sPr v
  · exact .inl (prF_0 h)
  · exact .inr (prF_5 h)
theorem tw_b {K PL PK : Int → Int} {i : Int} {s : wS} : 0 ≤ (tw K PL PK i s).1 ∧ (tw K PL PK i s).1 ≤ 5 := by
  obtain ⟨m, NM, pr, dg, dp, NU⟩ := s
  by_cases h5 : K i = 5
  · by_cases c : pvK K i = 2
    · by_cases g : fd NM (PK i) m < m ∨ 4 ≤ m
      · rw [tw_t h5 c g]; dsimp only; decide
      · rw [tw_l h5 c g]; dsimp only; decide
    · rw [tw_n h5 c]; dsimp only; split <;> decide
  · by_cases c : pvK K i = 1
    · rw [tw_1 h5 c]; dsimp only; rcases prF_b (NU i) with q | q <;> rw [q] <;> decide
    · by_cases c3 : pvK K i = 3
      · rw [tw_3 h5 c3]; dsimp only; unfold dgF; split <;> decide
      · rw [tw_0 h5 c c3]; dsimp only; decide
theorem pw_b {m k : Int} (hm : 0 ≤ m ∧ m ≤ 4) (hk : 0 ≤ k ∧ k ≤ 8) : 0 ≤ m ^ k.toNat ∧ m ^ k.toNat ≤ 65536 := by
  have h1 : m = 0 ∨ m = 1 ∨ m = 2 ∨ m = 3 ∨ m = 4 := by omega
  have h2 : k = 0 ∨ k = 1 ∨ k = 2 ∨ k = 3 ∨ k = 4 ∨ k = 5 ∨ k = 6 ∨ k = 7 ∨ k = 8 := by omega
  rcases h1 with rfl | rfl | rfl | rfl | rfl <;> rcases h2 with rfl | rfl | rfl | rfl | rfl | rfl | rfl | rfl | rfl <;> decide
theorem pw_s {m k : Int} (hk : 0 ≤ k) : m ^ (k + 1).toNat = m ^ k.toNat * m := by
  rw [show (k + 1).toNat = k.toNat + 1 by omega]
  exact Int.pow_succ m k.toNat
theorem gDg_eq {m d : Int} (hm : 0 ≤ m ∧ m ≤ 4) (hd : 1 ≤ d ∧ d ≤ 7) (h : m ^ d.toNat ≤ 256) (g : ∀ e : Int, d < e → e ≤ 7 → 256 < m ^ e.toNat) : d = gDg m := by
  have h1 : m = 0 ∨ m = 1 ∨ m = 2 ∨ m = 3 ∨ m = 4 := by omega
  rcases h1 with rfl | rfl | rfl | rfl | rfl
  · rcases Int.lt_or_le d 7 with c | c
    · exact absurd (g 7 c (by decide)) (by decide)
    · show d = 7; omega
  · rcases Int.lt_or_le d 7 with c | c
    · exact absurd (g 7 c (by decide)) (by decide)
    · show d = 7; omega
  · rcases Int.lt_or_le d 7 with c | c
    · exact absurd (g 7 c (by decide)) (by decide)
    · show d = 7; omega
  · rcases Int.lt_or_le d 5 with c | c
    · exact absurd (g 5 c (by decide)) (by decide)
    · have h2 : d = 5 ∨ d = 6 ∨ d = 7 := by omega
      rcases h2 with rfl | rfl | rfl
      · rfl
      · exact absurd h (by decide)
      · exact absurd h (by decide)
  · rcases Int.lt_or_le d 4 with c | c
    · exact absurd (g 4 c (by decide)) (by decide)
    · have h2 : d = 4 ∨ d = 5 ∨ d = 6 ∨ d = 7 := by omega
      rcases h2 with rfl | rfl | rfl | rfl
      · rfl
      · exact absurd h (by decide)
      · exact absurd h (by decide)
      · exact absurd h (by decide)
theorem gDg_ok {m : Int} (hm : 0 ≤ m ∧ m ≤ 4) : (1 ≤ gDg m ∧ gDg m ≤ 7) ∧ m ^ (gDg m).toNat ≤ 256 := by
  have h1 : m = 0 ∨ m = 1 ∨ m = 2 ∨ m = 3 ∨ m = 4 := by omega
  rcases h1 with rfl | rfl | rfl | rfl | rfl <;> decide
