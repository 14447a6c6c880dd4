/-! what the grammar says of the tokens of a text without a fault -/
noncomputable def kK (b : Int → Int) (N j : Int) : Int := kd b N (tp b N j.toNat)
section GR
variable {al N : Int} {b : Int → Int}
theorem nxt_go {k : Nat} {s t : aS} (h : nxt al b N k s = some t) : tp b N k < N ∧ gO al s (kd b N (tp b N k)) = some t ∧ ¬ tmu k t := by
  unfold nxt at h
  by_cases c : N ≤ tp b N k
  · rw [if_pos c] at h; cases h
  · rw [if_neg c] at h
    refine ⟨by omega, ?_⟩
    cases e : gO al s (kd b N (tp b N k)) with
    | none => rw [e] at h; cases h
    | some s' =>
      rw [e] at h
      dsimp only at h
      by_cases g : tmu k s'
      · rw [if_pos g] at h; cases h
      · rw [if_neg g] at h
        cases h
        exact ⟨rfl, g⟩
/-- the state at every token before the last -/
theorem stT_at {T : Nat} {s : aS} (h : stT al b N T = some s) {j : Int} (hj : 0 ≤ j ∧ j < T) : ∃ u v, stT al b N j.toNat = some u ∧ stT al b N (j + 1).toNat = some v ∧ tp b N j.toNat < N ∧ gO al u (kK b N j) = some v ∧ ¬ tmu j v := by
  obtain ⟨v, hv⟩ := stT_le (k := (j + 1).toNat) (T - (j + 1).toNat) s (by rw [show (j + 1).toNat + (T - (j + 1).toNat) = T by omega]; exact h)
  obtain ⟨u, hu⟩ := stT_le (k := j.toNat) 1 v (by rw [show j.toNat + 1 = (j + 1).toNat by omega]; exact hv)
  have k := stT_s hu
  rw [show j.toNat + 1 = (j + 1).toNat by omega, hv] at k
  have g := nxt_go k.symm
  rw [show ((j.toNat : Nat) : Int) = j by omega] at g
  exact ⟨u, v, hu, hv, g⟩
theorem stT_B {T : Nat} : ∀ {s : aS}, stT al b N T = some s → auB s := by
  induction T with
  | zero =>
    intro s h
    have e : (if al = 0 then (0 : Int) else 4, (0 : Int), (0 : Int), (0 : Int), (0 : Int)) = s := Option.some.inj h
    rw [← e]
    exact auB_0
  | succ T ih =>
    intro s h
    obtain ⟨u, v, hu, hv, h1, h2, h3⟩ := stT_at h (j := T) ⟨by omega, by omega⟩
    rw [show ((T : Int) + 1).toNat = T + 1 by omega, h] at hv
    cases hv
    rw [show ((T : Int)).toNat = T by omega] at hu
    exact auB_of (k := T) (gO_c (ih hu) h2) h3
/-- within a sum -/
def inS (s : aS) : Prop := s.1 = 4 ∨ s.1 = 5 ∨ s.1 = 6
theorem gO_in {s v : aS} {k : Int} (hs : inS s) (hB : auB s) (h : gO al s k = some v) (ht : v.2.1 ≤ 4) (hk : ¬ (k = 8 ∨ k = 7)) : (k = 5 ∨ k = 6 ∨ k = 9 ∨ k = 10 ∨ k = 11 ∨ k = 12) ∧ inS v ∧ v.2.1 = (if k = 11 then min (s.2.1 + 1) 4 else if k = 12 then max (s.2.1 - 1) 0 else s.2.1) ∧ (k = 12 → 1 ≤ s.2.1) ∧ v.2.2 = s.2.2 := by
  obtain ⟨due, dp, rest⟩ := s
  have hb2 : 0 ≤ dp ∧ dp ≤ 4 := hB.2.1
  have key : ∀ {w : aS}, fB (due, dp, rest) k = some w → w.2.1 ≤ 4 → (k = 5 ∨ k = 11) ∧ inS w ∧ w.2.1 = (if k = 11 then min (dp + 1) 4 else if k = 12 then max (dp - 1) 0 else dp) ∧ (k = 12 → 1 ≤ dp) ∧ w.2.2 = rest := by
    intro w hw hw4
    unfold fB at hw
    by_cases h1 : k = 11
    · rw [if_pos h1] at hw; cases hw
      have : dp + 1 ≤ 4 := hw4
      refine ⟨.inr h1, .inl rfl, ?_, fun q => by omega, rfl⟩
      rw [if_pos h1]
      show dp + 1 = min (dp + 1) 4
      omega
    · rw [if_neg h1] at hw
      by_cases h2 : k = 5
      · rw [if_pos h2] at hw; cases hw
        refine ⟨.inl h2, .inr (.inr rfl), ?_, fun q => by omega, rfl⟩
        rw [if_neg h1, if_neg (by omega)]
      · rw [if_neg h2] at hw; cases hw
  have keyM : ∀ {w : aS}, mB (due, dp, rest) k = some w → w.2.1 ≤ 4 → (k = 5 ∨ k = 6 ∨ k = 11) ∧ inS w ∧ w.2.1 = (if k = 11 then min (dp + 1) 4 else if k = 12 then max (dp - 1) 0 else dp) ∧ (k = 12 → 1 ≤ dp) ∧ w.2.2 = rest := by
    intro w hw hw4
    unfold mB at hw
    by_cases h1 : k = 6
    · rw [if_pos h1] at hw; cases hw
      refine ⟨.inr (.inl h1), .inr (.inr rfl), ?_, fun q => by omega, rfl⟩
      rw [if_neg (by omega), if_neg (by omega)]
    · rw [if_neg h1] at hw
      have r := key hw hw4
      exact ⟨by omega, r.2⟩
  unfold gO at h
  have hd : due = 4 ∨ due = 5 ∨ due = 6 := hs
  dsimp only at h ⊢
  rcases hd with rfl | rfl | rfl
  · rw [if_neg (by decide), if_neg (by decide), if_neg (by decide), if_neg (by decide), if_pos rfl] at h
    by_cases h1 : k = 10
    · rw [if_pos h1] at h; cases h
      refine ⟨by omega, .inr (.inl rfl), ?_, fun q => by omega, rfl⟩
      rw [if_neg (by omega), if_neg (by omega)]
    · rw [if_neg h1] at h
      have r := keyM h ht
      exact ⟨by omega, r.2⟩
  · rw [if_neg (by decide), if_neg (by decide), if_neg (by decide), if_neg (by decide), if_neg (by decide), if_pos rfl] at h
    have r := keyM h ht
    exact ⟨by omega, r.2⟩
  · rw [if_neg (by decide), if_neg (by decide), if_neg (by decide), if_neg (by decide), if_neg (by decide), if_neg (by decide)] at h
    unfold tG at h
    by_cases h1 : k = 9 ∨ k = 10
    · rw [if_pos h1] at h; cases h
      refine ⟨by omega, .inr (.inl rfl), ?_, fun q => by omega, rfl⟩
      rw [if_neg (by omega), if_neg (by omega)]
    rw [if_neg h1] at h
    by_cases h2 : k = 12
    · rw [if_pos h2] at h
      by_cases g : 1 ≤ dp
      · rw [if_pos g] at h; cases h
        refine ⟨by omega, .inr (.inr rfl), ?_, fun _ => g, rfl⟩
        rw [if_neg (by omega), if_pos h2]
        show dp - 1 = max (dp - 1) 0
        omega
      · rw [if_neg g] at h; cases h
    rw [if_neg h2, if_neg (by omega), if_neg (by omega)] at h
    have r := key h ht
    exact ⟨by omega, r.2⟩
theorem gO_out {s v : aS} {k : Int} (hs : inS s) (h : gO al s k = some v) (hk : k = 8 ∨ k = 7) : s.1 = 6 ∧ s.2.1 = 0 ∧ al = 0 ∧ v.2.1 = 0 ∧ (k = 8 → v.1 = 4) ∧ (k = 7 → v.1 = 0) := by
  obtain ⟨due, dp, rest⟩ := s
  have hf : ∀ w, ¬ fB (due, dp, rest) k = some w := fun w q => by
    unfold fB at q
    rw [if_neg (by omega), if_neg (by omega)] at q; cases q
  have hmb : ∀ w, ¬ mB (due, dp, rest) k = some w := fun w q => by
    unfold mB at q
    rw [if_neg (by omega)] at q; exact hf w q
  unfold gO at h
  have hd : due = 4 ∨ due = 5 ∨ due = 6 := hs
  dsimp only at h
  rcases hd with rfl | rfl | rfl
  · rw [if_neg (by decide), if_neg (by decide), if_neg (by decide), if_neg (by decide), if_pos rfl, if_neg (by omega)] at h
    exact absurd h (hmb _)
  · rw [if_neg (by decide), if_neg (by decide), if_neg (by decide), if_neg (by decide), if_neg (by decide), if_pos rfl] at h
    exact absurd h (hmb _)
  · rw [if_neg (by decide), if_neg (by decide), if_neg (by decide), if_neg (by decide), if_neg (by decide), if_neg (by decide)] at h
    unfold tG at h
    rw [if_neg (by omega), if_neg (by omega)] at h
    by_cases h8 : k = 8
    · rw [if_pos h8] at h
      by_cases g : dp = 0 ∧ al = 0 ∧ ¬ rest.2.2 = 0
      · rw [if_pos g] at h; cases h
        exact ⟨rfl, g.1, g.2.1, g.1, fun _ => rfl, fun q => by omega⟩
      · rw [if_neg g] at h; cases h
    · rw [if_neg h8, if_pos (by omega)] at h
      by_cases g : dp = 0 ∧ al = 0
      · rw [if_pos g] at h; cases h
        exact ⟨rfl, g.1, g.2, g.1, fun q => absurd q h8, fun _ => rfl⟩
      · rw [if_neg g] at h; cases h
/-- the run through a sum that begins at fr -/
theorem sum_run {T : Nat} {s s0 : aS} {K : Int → Int} {fr : Int} (h : stT al b N T = some s) (hK : ∀ j : Int, 0 ≤ j → j < T → K j = kK b N j) (hf : 0 ≤ fr ∧ fr ≤ T) (h0 : stT al b N fr.toNat = some s0) (hi : inS s0) (hd : s0.2.1 = 0) : ∀ t : Nat, fr + t ≤ enD K T fr → ∃ u, stT al b N (fr + t).toNat = some u ∧ inS u ∧ u.2.1 = dpN K fr t ∧ u.2.2 = s0.2.2 ∧ (∀ j : Nat, j < t → (K (fr + j) = 5 ∨ K (fr + j) = 6 ∨ K (fr + j) = 9 ∨ K (fr + j) = 10 ∨ K (fr + j) = 11 ∨ K (fr + j) = 12) ∧ (K (fr + j) = 12 → 1 ≤ dpN K fr j))
  | 0, _ => ⟨s0, by rw [show fr + ((0 : Nat) : Int) = fr by omega]; exact h0, hi, hd, rfl, fun j a => absurd a (Nat.not_lt_zero j)⟩
  | t + 1, ht => by
    have hb := enD_b (K := K) hf.2
    obtain ⟨u, hu, hin, hdp, hr, hq⟩ := sum_run h hK hf h0 hi hd t (by omega)
    obtain ⟨u2, v, e1, e2, e3, e4, e5⟩ := stT_at h (j := fr + t) ⟨by omega, by omega⟩
    rw [hu] at e1
    cases e1
    have hkn : ¬ (K (fr + t) = 8 ∨ K (fr + t) = 7) := (rn_b (q := fun j => ¬ (K j = 8 ∨ K j = 7)) (N := T) (i := fr) hf.2).2.1 (fr + t) (by omega) (by show fr + (t : Int) < enD K T fr; omega)
    rw [← hK (fr + t) (by omega) (by omega)] at e4
    unfold tmu at e5
    have g := gO_in hin (stT_B hu) e4 (by omega) hkn
    refine ⟨v, by rw [show fr + ((t + 1 : Nat) : Int) = fr + t + 1 by omega]; exact e2, g.2.1, ?_, g.2.2.2.2.trans hr, fun j a => ?_⟩
    · show v.2.1 = (if K (fr + t) = 11 then min (dpN K fr t + 1) 4 else if K (fr + t) = 12 then max (dpN K fr t - 1) 0 else dpN K fr t)
      rw [← hdp]; exact g.2.2.1
    · by_cases e : j = t
      · subst e
        exact ⟨g.1, fun q => by rw [← hdp]; exact g.2.2.2.1 q⟩
      · exact hq j (by omega)
theorem sum_ok {T : Nat} {s s0 : aS} {K : Int → Int} {fr : Int} (h : stT al b N T = some s) (hK : ∀ j : Int, 0 ≤ j → j < T → K j = kK b N j) (hf : 0 ≤ fr ∧ fr ≤ T) (h0 : stT al b N fr.toNat = some s0) (hi : inS s0) (hd : s0.2.1 = 0) : dOk K T fr ∧ sKd K T fr ∧ ∃ u, stT al b N (enD K T fr).toNat = some u ∧ inS u ∧ u.2.2 = s0.2.2 := by
  have hb := enD_b (K := K) hf.2
  obtain ⟨u, hu, hin, hdp, hr, hq⟩ := sum_run h hK hf h0 hi hd (enD K T fr - fr).toNat (by omega)
  rw [show fr + (((enD K T fr - fr).toNat : Nat) : Int) = enD K T fr by omega] at hu
  refine ⟨fun j a c e => ?_, fun j a c => ?_, u, hu, hin, hr⟩
  · have k := (hq (j - fr).toNat (by omega)).2
    rw [show fr + (((j - fr).toNat : Nat) : Int) = j by omega] at k
    exact k e
  · have k := (hq (j - fr).toNat (by omega)).1
    rw [show fr + (((j - fr).toNat : Nat) : Int) = j by omega] at k
    exact k
/-- where a word of the frame stands, what came before -/
theorem gO_4 {s v : aS} {k : Int} (hB : auB s) (h : gO al s k = some v) (hk : k = 1 ∨ k = 2 ∨ k = 3 ∨ k = 4) : s.1 = 0 ∧ tB s k = some v := by
  have hf : ∀ w, ¬ fB s k = some w := fun w q => by
    unfold fB at q
    rw [if_neg (by omega), if_neg (by omega)] at q; cases q
  have hmb : ∀ w, ¬ mB s k = some w := fun w q => by
    unfold mB at q
    rw [if_neg (by omega)] at q; exact hf w q
  unfold gO at h
  by_cases h0 : s.1 = 0
  · rw [if_pos h0] at h; exact ⟨h0, h⟩
  rw [if_neg h0] at h
  by_cases h1 : s.1 = 1
  · rw [if_pos h1, if_neg (by omega)] at h; cases h
  rw [if_neg h1] at h
  by_cases h2 : s.1 = 2
  · rw [if_pos h2, if_neg (by omega)] at h; cases h
  rw [if_neg h2] at h
  by_cases h3 : s.1 = 3
  · rw [if_pos h3, if_neg (by omega)] at h; cases h
  rw [if_neg h3] at h
  by_cases h4 : s.1 = 4
  · rw [if_pos h4, if_neg (by omega)] at h; exact absurd h (hmb _)
  rw [if_neg h4] at h
  by_cases h5 : s.1 = 5
  · rw [if_pos h5] at h; exact absurd h (hmb _)
  rw [if_neg h5] at h
  unfold tG at h
  rw [if_neg (by omega), if_neg (by omega), if_neg (by omega), if_neg (by omega)] at h
  exact absurd h (hf _)
/-- outside a sum no bracket is open; laws counted -/
def frQ (K : Int → Int) (j : Int) (s : aS) : Prop := (s.1 ≤ 3 → s.2.1 = 0) ∧ s.2.2.2.1 = cLw K j
theorem fB_q {s v : aS} {k : Int} (h : fB s k = some v) : v.1 = 4 ∨ v.1 = 6 := by
  unfold fB at h
  by_cases h1 : k = 11
  · rw [if_pos h1] at h; cases h; exact .inl rfl
  · rw [if_neg h1] at h
    by_cases h2 : k = 5
    · rw [if_pos h2] at h; cases h; exact .inr rfl
    · rw [if_neg h2] at h; cases h
theorem fB_l {s v : aS} {k : Int} (h : fB s k = some v) : v.2.2 = s.2.2 ∧ ¬ k = 4 := by
  unfold fB at h
  by_cases h1 : k = 11
  · rw [if_pos h1] at h; cases h; exact ⟨rfl, by omega⟩
  · rw [if_neg h1] at h
    by_cases h2 : k = 5
    · rw [if_pos h2] at h; cases h; exact ⟨rfl, by omega⟩
    · rw [if_neg h2] at h; cases h
theorem gO_fr {s v : aS} {k : Int} (h : gO al s k = some v) (hs : s.1 ≤ 3 → s.2.1 = 0) : (v.1 ≤ 3 → v.2.1 = 0) ∧ v.2.2.2.1 = s.2.2.2.1 + (if k = 4 then 1 else 0) := by
  obtain ⟨due, dp, le, la, me⟩ := s
  dsimp only at hs ⊢
  have hM : ∀ {w : aS}, mB (due, dp, le, la, me) k = some w → (w.1 ≤ 3 → w.2.1 = 0) ∧ w.2.2.2.1 = la + (if k = 4 then 1 else 0) := by
    intro w hw
    unfold mB at hw
    by_cases h1 : k = 6
    · rw [if_pos h1] at hw; cases hw
      refine ⟨fun q => by (try dsimp only at q); omega, ?_⟩
      rw [if_neg (by omega)]; show la = la + 0; omega
    · rw [if_neg h1] at hw
      have e1 := fB_q hw
      have e2 := fB_l hw
      refine ⟨fun q => by omega, ?_⟩
      rw [e2.1, if_neg e2.2]; show la = la + 0; omega
  unfold gO at h
  dsimp only at h
  by_cases h0 : due = 0
  · rw [if_pos h0] at h
    have hz := hs (by omega)
    unfold tB at h
    by_cases h1 : k = 1 ∨ k = 3
    · rw [if_pos h1] at h; cases h
      exact ⟨fun _ => hz, by rw [if_neg (by omega)]; show la = la + 0; omega⟩
    rw [if_neg h1] at h
    by_cases h2 : k = 2
    · rw [if_pos h2] at h; cases h
      exact ⟨fun _ => hz, by rw [if_neg (by omega)]; show la = la + 0; omega⟩
    rw [if_neg h2] at h
    by_cases h3 : k = 4
    · rw [if_pos h3] at h; cases h
      exact ⟨fun _ => hz, by rw [if_pos h3]⟩
    rw [if_neg h3] at h; cases h
  rw [if_neg h0] at h
  by_cases h1 : due = 1
  · rw [if_pos h1] at h
    have hz := hs (by omega)
    by_cases r : k = 6
    · rw [if_pos r] at h; cases h
      exact ⟨fun _ => hz, by rw [if_neg (by omega)]; show la = la + 0; omega⟩
    · rw [if_neg r] at h; cases h
  rw [if_neg h1] at h
  by_cases h2 : due = 2
  · rw [if_pos h2] at h
    have hz := hs (by omega)
    by_cases r : k = 5
    · rw [if_pos r] at h; cases h
      exact ⟨fun _ => hz, by rw [if_neg (by omega)]; show la = la + 0; omega⟩
    · rw [if_neg r] at h; cases h
  rw [if_neg h2] at h
  by_cases h3 : due = 3
  · rw [if_pos h3] at h
    have hz := hs (by omega)
    by_cases r : k = 7
    · rw [if_pos r] at h; cases h
      exact ⟨fun _ => hz, by rw [if_neg (by omega)]; show la = la + 0; omega⟩
    · rw [if_neg r] at h; cases h
  rw [if_neg h3] at h
  by_cases h4 : due = 4
  · rw [if_pos h4] at h
    by_cases r : k = 10
    · rw [if_pos r] at h; cases h
      exact ⟨fun q => by (try dsimp only at q); omega, by rw [if_neg (by omega)]; show la = la + 0; omega⟩
    · rw [if_neg r] at h; exact hM h
  rw [if_neg h4] at h
  by_cases h5 : due = 5
  · rw [if_pos h5] at h; exact hM h
  rw [if_neg h5] at h
  unfold tG at h
  dsimp only at h
  by_cases r1 : k = 9 ∨ k = 10
  · rw [if_pos r1] at h; cases h
    exact ⟨fun q => by (try dsimp only at q); omega, by rw [if_neg (by omega)]; show la = la + 0; omega⟩
  rw [if_neg r1] at h
  by_cases r2 : k = 12
  · rw [if_pos r2] at h
    by_cases g : 1 ≤ dp
    · rw [if_pos g] at h; cases h
      exact ⟨fun q => by (try dsimp only at q); omega, by rw [if_neg (by omega)]; show la = la + 0; omega⟩
    · rw [if_neg g] at h; cases h
  rw [if_neg r2] at h
  by_cases r3 : k = 8
  · rw [if_pos r3] at h
    by_cases g : dp = 0 ∧ al = 0 ∧ ¬ me = 0
    · rw [if_pos g] at h; cases h
      exact ⟨fun _ => g.1, by rw [if_neg (by omega)]; show la = la + 0; omega⟩
    · rw [if_neg g] at h; cases h
  rw [if_neg r3] at h
  by_cases r4 : k = 7
  · rw [if_pos r4] at h
    by_cases g : dp = 0 ∧ al = 0
    · rw [if_pos g] at h; cases h
      exact ⟨fun _ => g.1, by rw [if_neg (by omega)]; show la = la + 0; omega⟩
    · rw [if_neg g] at h; cases h
  rw [if_neg r4] at h
  have e1 := fB_q h
  have e2 := fB_l h
  refine ⟨fun q => by omega, ?_⟩
  rw [e2.1, if_neg e2.2]; show la = la + 0; omega
theorem stT_fr {T : Nat} {s : aS} {K : Int → Int} (h : stT al b N T = some s) (hK : ∀ j : Int, 0 ≤ j → j < T → K j = kK b N j) : ∀ (j : Nat) (u : aS), j ≤ T → stT al b N j = some u → frQ K j u
  | 0, u, _, hu => by
    have e : (if al = 0 then (0 : Int) else 4, (0 : Int), (0 : Int), (0 : Int), (0 : Int)) = u := Option.some.inj hu
    rw [← e]
    exact ⟨fun _ => rfl, rfl⟩
  | j + 1, u, hj, hu => by
    obtain ⟨u0, v, e1, e2, e3, e4, e5⟩ := stT_at h (j := j) ⟨by omega, by omega⟩
    rw [show ((j : Int) + 1).toNat = j + 1 by omega, hu] at e2
    cases e2
    rw [show ((j : Int)).toNat = j by omega] at e1
    have ih := stT_fr h hK j u0 (by omega) e1
    have g := gO_fr e4 ih.1
    refine ⟨g.1, ?_⟩
    rw [g.2, ih.2, show ((j + 1 : Nat) : Int) = (j : Int) + 1 by omega, cLw_s (by omega), hK j (by omega) (by omega)]
end GR
