/-! codes below C0 stay -/
def cuQ (C0 : Int) (CO CI CO' CI' : Int → Int) : Prop := ∀ x, x < C0 → CO' x = CO x ∧ CI' x = CI x
section CUQ
variable {C0 C C' o more v w : Int} {CO CI CO1 CI1 CO' CI' H M F L BE H' F' L' BE' : Int → Int}
theorem cu_0 : cuQ C0 CO CI CO CI := fun _ _ => ⟨rfl, rfl⟩
theorem cu_up (h : cuQ C0 CO CI CO1 CI1) (hC : C0 ≤ C) : cuQ C0 CO CI (up CO1 C v) (up CI1 C w) := fun x a => by
  rw [up_ne (by omega), up_ne (by omega)]
  exact h x a
theorem cu_fa (h : cuQ C0 CO CI CO1 CI1) (hC : C0 ≤ C) (e : faQ o more F L C CO1 CI1 F' L' C' CO' CI') : cuQ C0 CO CI CO' CI' := by
  rcases e.2.2 with ⟨_, _, rfl, rfl⟩ | ⟨_, _, rfl, rfl⟩
  · exact h
  · exact cu_up h hC
theorem cu_et (h : cuQ C0 CO CI CO1 CI1) (hC : C0 ≤ C) (e : etQ o H M F L BE C CO1 CI1 H' F' L' BE' C' CO' CI') : cuQ C0 CO CI CO' CI' ∧ C0 ≤ C' := by
  rcases e.2.2.2.2 with ⟨_, _, rfl, rfl, rfl⟩ | ⟨_, rfl, rfl, rfl⟩
  · exact ⟨h, hC⟩
  · exact ⟨cu_up h hC, by omega⟩
theorem cu_gb {FA' : Int} {A1 A2 A3 A4 A5 A6 A7 A8 A9 B1 B2 B3 B4 B5 B6 B7 B8 B9 D1 D2 D3 : Prop} {BEo o2 : Int} (h : cuQ C0 CO CI CO1 CI1) (hC : C0 ≤ C) (g : (A1 ∧ ¬ FA' = 0 ∧ A2) ∨ (A3 ∧ A4 ∧ A5 ∧ A6 ∧ A7 ∧ A8 ∧ A9 ∧ etQ o H M F L BE C CO1 CI1 H' F' L' BE' C' CO' CI' ∧ B1) ∨ (B2 ∧ B3 ∧ B4 ∧ B5 ∧ etQ o H M F L BE C CO1 CI1 H' F' L' BE' C' CO' CI' ∧ B6) ∨ (B7 ∧ B8 ∧ B9 ∧ D3 ∧ D1 ∧ (∃ F1 L1 C1 CO2 CI2, etQ o H M F L BE C CO1 CI1 H' F1 L1 BE' C1 CO2 CI2 ∧ faQ o2 BEo F1 L1 C1 CO2 CI2 F' L' C' CO' CI') ∧ D2)) (q : FA' = 0) : cuQ C0 CO CI CO' CI' := by
  rcases g with g | g | g | g
  · exact absurd q g.2.1
  · exact (cu_et h hC g.2.2.2.2.2.2.2.1).1
  · exact (cu_et h hC g.2.2.2.2.1).1
  · obtain ⟨_, _, _, _, _, ⟨F1, L1, C1, CO2, CI2, e, e2⟩, _⟩ := g
    have k := cu_et h hC e
    exact cu_fa k.1 k.2 e2
end CUQ
