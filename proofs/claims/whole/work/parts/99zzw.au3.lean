/-! how a text ends is told by its bytes alone -/
section TKU
variable {al N : Int} {b : Int → Int}
theorem nxt_inv {k : Nat} {s t : aS} (h : nxt al b N k s = some t) : tp b N k < N ∧ flt al b N k s = 0 := by
  unfold nxt at h
  by_cases c : N ≤ tp b N k
  · rw [if_pos c] at h; cases h
  · rw [if_neg c] at h
    refine ⟨by omega, ?_⟩
    unfold flt
    cases e : gO al s (kd b N (tp b N k)) with
    | none => rw [e] at h; cases h
    | some s' =>
      rw [e] at h
      dsimp only at h ⊢
      by_cases g : tmu k s'
      · rw [if_pos g] at h; cases h
      · rw [if_neg g]
theorem stT_le {k : Nat} : ∀ (m : Nat) (s : aS), stT al b N (k + m) = some s → ∃ t, stT al b N k = some t
  | 0, s, h => ⟨s, h⟩
  | m + 1, s, h => by
    cases e : stT al b N (k + m) with
    | none =>
      have h2 : stT al b N (k + m + 1) = none := by
        show (match stT al b N (k + m) with | none => none | some s => nxt al b N (k + m) s) = none
        rw [e]
      rw [show k + (m + 1) = k + m + 1 by omega, h2] at h
      cases h
    | some t => exact stT_le m t e
theorem stT_lt {T T' : Nat} {s s' : aS} (hlt : T < T') (h : stT al b N T = some s) (h' : stT al b N T' = some s') : tp b N T < N ∧ flt al b N T s = 0 := by
  obtain ⟨t, ht⟩ := stT_le (k := T + 1) (T' - (T + 1)) s' (by rw [show T + 1 + (T' - (T + 1)) = T' by omega]; exact h')
  rw [stT_s h] at ht
  exact nxt_inv ht
theorem tkO_lt {T T' : Nat} {r r' pl pl' : Int} (h : tkO al b N T r pl) (g : tkO al b N T' r' pl') : ¬ T < T' := by
  intro c
  obtain ⟨s, h1, h2⟩ := h
  obtain ⟨s', g1, _⟩ := g
  have k := stT_lt c h1 g1
  rcases h2 with q | q | q
  · omega
  · omega
  · exact q.2.1 k.2
theorem tkO_u {T T' : Nat} {r r' pl pl' : Int} (h : tkO al b N T r pl) (g : tkO al b N T' r' pl') : T = T' ∧ r = r' ∧ pl = pl' := by
  have e : T = T' := by
    have h1 := tkO_lt h g
    have h2 := tkO_lt g h
    omega
  subst e
  obtain ⟨s, h1, h2⟩ := h
  obtain ⟨s', g1, g2⟩ := g
  rw [h1] at g1
  cases g1
  rcases h2 with q | q | q <;> rcases g2 with w | w | w
  · exact ⟨rfl, by omega, by omega⟩
  · exact absurd q.2.1 w.2.1
  · omega
  · exact absurd w.2.1 q.2.1
  · exact ⟨rfl, by omega, by omega⟩
  · omega
  · omega
  · omega
  · exact ⟨rfl, q.2.2.1.trans w.2.2.1.symm, by omega⟩
end TKU
