/-! contracts of methods, walked (written by wip/whole/walk.py from the annotations ann_m18) -/
theorem ct_X1_overlapsTooLong (σ : en_m) (n : Int) (D : Int) (p : Int) (a : Int) (u : Int) (b : Int) (v : Int) (hI : cS0 σ n D p) (ha : 1 ≤ a ∧ a ≤ D) (hu : 0 ≤ u ∧ u < sW n D a) (hb : 1 ≤ b ∧ b ≤ D) (hv : 0 ≤ v ∧ v < sW n D b) : en_ct z_X1_overlapsTooLong [.inr (.inr (r_Machine, 0)), .inl a, .inl u, .inl b, .inl v] σ (fun r σ' => ∃ (rr : Int), r = some (.inl rr) ∧ σ' = srl σ [] ∧ ((rr = 1 ∧ opn n D a u b v) ∨ (rr = 0 ∧ ¬ opn n D a u b v))) := by
  show en_wp k_X1_overlapsTooLong 0 [some (.inr (.inr (r_Machine, 0))), some (.inl a), some (.inl u), some (.inl b), some (.inl v), none] [] (srl σ []) (fun r σ' => ∃ (rr : Int), r = some (.inl rr) ∧ σ' = srl σ [] ∧ ((rr = 1 ∧ opn n D a u b v) ∨ (rr = 0 ∧ ¬ opn n D a u b v)))
  have hI2 := hI
  obtain ⟨hO, hn, hD, hp, hm, hst, hln⟩ := hI2
  obtain ⟨⟨hO1, hO2⟩, ⟨hO3, hO4⟩, hO5, hO6, hO7, hO8⟩ := id hO
  have hWa := sW_b (k := a) hO
  have hWb := sW_b (k := b) hO
  have L_3 : ∀ (N : Nat) (o : Int), (1 ≤ o ∧ o ≤ a ∧ o ≤ b) → (∀ k, 1 ≤ k → k < o → ¬ (D < a + b - k ∧ u % sW n D k = v / sW n D (b - k))) → (a - o).toNat < N → en_wp k_X1_overlapsTooLong 3 [some (.inr (.inr (r_Machine, 0))), some (.inl a), some (.inl u), some (.inl b), some (.inl v), some (.inl o)] [] (srl σ []) (fun r σ' => ∃ (rr : Int), r = some (.inl rr) ∧ σ' = srl σ [] ∧ ((rr = 1 ∧ opn n D a u b v) ∨ (rr = 0 ∧ ¬ opn n D a u b v))) := by
    intro N
    induction N with
    | zero => intro o; intros; omega
    | succ N ih_3 =>
      intro o ho hno hN_3
      refine wp_run 3 (pc' := 7) (ls' := [some (.inr (.inr (r_Machine, 0))), some (.inl a), some (.inl u), some (.inl b), some (.inl v), some (.inl o)]) (st' := [.inl b, .inl a, .inl o]) (σ' := srl σ []) rfl ?_
      refine wp_min rfl rfl (by omega) (by omega) ?_
      show en_wp k_X1_overlapsTooLong 10 [some (.inr (.inr (r_Machine, 0))), some (.inl a), some (.inl u), some (.inl b), some (.inl v), some (.inl o)] [.inl (min a b), .inl o] (srl σ []) _
      refine wp_ic_ge rfl (by omega) (by omega) (fun h_1 => ?_) (fun h_1 => ?_)
      · show en_wp k_X1_overlapsTooLong 63 [some (.inr (.inr (r_Machine, 0))), some (.inl a), some (.inl u), some (.inl b), some (.inl v), some (.inl o)] [] (srl σ []) _
        refine wp_run 1 (pc' := 64) (ls' := [some (.inr (.inr (r_Machine, 0))), some (.inl a), some (.inl u), some (.inl b), some (.inl v), some (.inl o)]) (st' := [.inl 0]) (σ' := srl σ []) rfl ?_
        exact wp_zret rfl (.inl rfl) ⟨0, rfl, srl_eq (l' := []) trivial trivial, (.inr ⟨rfl, fun ⟨k, h5, h6, h7, h8, h9⟩ => by rcases Int.lt_or_le k o with h4 | h4; exact hno k h5 h4 ⟨h8, h9⟩; omega⟩)⟩
      · show en_wp k_X1_overlapsTooLong 13 [some (.inr (.inr (r_Machine, 0))), some (.inl a), some (.inl u), some (.inl b), some (.inl v), some (.inl o)] [] (srl σ []) _
        refine wp_run 7 (pc' := 23) (ls' := [some (.inr (.inr (r_Machine, 0))), some (.inl a), some (.inl u), some (.inl b), some (.inl v), some (.inl o)]) (st' := [.inr (.inr (r_Shape0, 0)), .inl ((a + b) - o)]) (σ' := srl σ []) rfl ?_
        refine wp_fnv (v := .inl D) rfl rfl rfl rfl (ct_X5_longest_Shape0 σ n D p hI) ?_
        show en_wp k_X1_overlapsTooLong 26 [some (.inr (.inr (r_Machine, 0))), some (.inl a), some (.inl u), some (.inl b), some (.inl v), some (.inl o)] [.inl D, .inl ((a + b) - o)] (srl σ []) _
        refine wp_ic_le rfl (by omega) (by omega) (fun h_2 => ?_) (fun h_2 => ?_)
        · show en_wp k_X1_overlapsTooLong 63 [some (.inr (.inr (r_Machine, 0))), some (.inl a), some (.inl u), some (.inl b), some (.inl v), some (.inl o)] [] (srl σ []) _
          refine wp_run 1 (pc' := 64) (ls' := [some (.inr (.inr (r_Machine, 0))), some (.inl a), some (.inl u), some (.inl b), some (.inl v), some (.inl o)]) (st' := [.inl 0]) (σ' := srl σ []) rfl ?_
          exact wp_zret rfl (.inl rfl) ⟨0, rfl, srl_eq (l' := []) trivial trivial, (.inr ⟨rfl, fun ⟨k, h5, h6, h7, h8, h9⟩ => by rcases Int.lt_or_le k o with h4 | h4; exact hno k h5 h4 ⟨h8, h9⟩; omega⟩)⟩
        · show en_wp k_X1_overlapsTooLong 29 [some (.inr (.inr (r_Machine, 0))), some (.inl a), some (.inl u), some (.inl b), some (.inl v), some (.inl o)] [] (srl σ []) _
          refine wp_run 4 (pc' := 36) (ls' := [some (.inr (.inr (r_Machine, 0))), some (.inl a), some (.inl u), some (.inl b), some (.inl v), some (.inl o)]) (st' := [.inl o, .inl u, .inr (.inr (r_Shape0, 0))]) (σ' := srl σ []) rfl ?_
          have hpo := sW_p hO (show 0 ≤ o by omega) (show o ≤ a by omega) hu
          refine wp_fnv (v := .inl (u % sW n D o)) rfl rfl rfl rfl (ct_X5_tailOf_Shape0_p σ n D p u o hI (by omega) (by omega) (by omega)) ?_
          show en_wp k_X1_overlapsTooLong 39 [some (.inr (.inr (r_Machine, 0))), some (.inl a), some (.inl u), some (.inl b), some (.inl v), some (.inl o)] [.inl (u % sW n D o)] (srl σ []) _
          have q_3 : 0 ≤ u % sW n D o ∧ u % sW n D o < sW n D o := ⟨Int.emod_nonneg _ (by omega), Int.emod_lt_of_pos _ (by omega)⟩
          refine wp_run 6 (pc' := 49) (ls' := [some (.inr (.inr (r_Machine, 0))), some (.inl a), some (.inl u), some (.inl b), some (.inl v), some (.inl o)]) (st' := [.inl (b - o), .inl v, .inr (.inr (r_Shape0, 0)), .inl (u % sW n D o)]) (σ' := srl σ []) rfl ?_
          have hpb := sW_p hO (show 0 ≤ b - o by omega) (show b - o ≤ b by omega) hv
          refine wp_fnv (v := .inl (v / sW n D (b - o))) rfl rfl rfl rfl (ct_X5_headOf_Shape0_p σ n D p v (b - o) hI (by omega) (by omega) (by omega)) ?_
          show en_wp k_X1_overlapsTooLong 52 [some (.inr (.inr (r_Machine, 0))), some (.inl a), some (.inl u), some (.inl b), some (.inl v), some (.inl o)] [.inl (v / sW n D (b - o)), .inl (u % sW n D o)] (srl σ []) _
          have q_4 : 0 ≤ v / sW n D (b - o) := Int.ediv_nonneg (by omega) (by omega)
          have hm1 := Int.emod_nonneg u (show sW n D o ≠ 0 by omega)
          have hm2 := Int.emod_lt_of_pos u (show 0 < sW n D o by omega)
          have hm3 := sW_b (k := o) hO
          have hd1 := Int.ediv_nonneg hv.1 (show 0 ≤ sW n D (b - o) by omega)
          have hd2 := Int.ediv_le_self (sW n D (b - o)) hv.1
          refine wp_ic_ne rfl (by omega) (by omega) (fun h_5 => ?_) (fun h_5 => ?_)
          · show en_wp k_X1_overlapsTooLong 57 [some (.inr (.inr (r_Machine, 0))), some (.inl a), some (.inl u), some (.inl b), some (.inl v), some (.inl o)] [] (srl σ []) _
            refine wp_run 2 (pc' := 3) (ls' := [some (.inr (.inr (r_Machine, 0))), some (.inl a), some (.inl u), some (.inl b), some (.inl v), some (.inl (o + 1))]) (st' := []) (σ' := srl σ []) rfl ?_
            exact ih_3 (o + 1) (by omega) (fun k h8 h9 => by rcases Int.lt_or_eq_of_le (show k ≤ o by omega) with h5 | h5 <;> first | exact hno k h8 h5 | (rw [h5]; omega)) (by omega)
          · show en_wp k_X1_overlapsTooLong 55 [some (.inr (.inr (r_Machine, 0))), some (.inl a), some (.inl u), some (.inl b), some (.inl v), some (.inl o)] [] (srl σ []) _
            refine wp_run 1 (pc' := 56) (ls' := [some (.inr (.inr (r_Machine, 0))), some (.inl a), some (.inl u), some (.inl b), some (.inl v), some (.inl o)]) (st' := [.inl 1]) (σ' := srl σ []) rfl ?_
            exact wp_zret rfl (.inr rfl) ⟨1, rfl, srl_eq (l' := []) trivial trivial, (.inl ⟨rfl, o, by omega, by omega, by omega, by omega, by assumption⟩)⟩
  refine wp_run 2 (pc' := 3) (ls' := [some (.inr (.inr (r_Machine, 0))), some (.inl a), some (.inl u), some (.inl b), some (.inl v), some (.inl 1)]) (st' := []) (σ' := srl σ []) rfl ?_
  exact L_3 _ 1 (by omega) (fun k h8 h9 => by omega) (Nat.lt_succ_self _)
theorem ct_X1_closesWithAll (σ : en_m) (n : Int) (D : Int) (p : Int) (L : Int → Int) (a : Int) (u : Int) (hI : cS0 σ n D p) (ha : 1 ≤ a ∧ a ≤ D) (hu : 0 ≤ u ∧ u < sW n D a) (g01 : R01 ((σ r_Nought0_leading))) (hLL : ∀ x, 0 ≤ x → x < sS n D (D + 1) → (σ r_Nought0_leading) x = L x) : en_ct z_X1_closesWithAll [.inr (.inr (r_Machine, 0)), .inl a, .inl u] σ (fun r σ' => ∃ (rr : Int), r = some (.inl rr) ∧ σ' = srl σ [] ∧ ((rr = 1 ∧ ∀ b v, 1 ≤ b → b ≤ D → 0 ≤ v → v < sW n D b → isB L n D b v → ¬ opn n D a u b v) ∨ (rr = 0 ∧ ¬ (∀ b v, 1 ≤ b → b ≤ D → 0 ≤ v → v < sW n D b → isB L n D b v → ¬ opn n D a u b v)))) := by
  show en_wp k_X1_closesWithAll 0 [some (.inr (.inr (r_Machine, 0))), some (.inl a), some (.inl u), none, none] [] (srl σ []) (fun r σ' => ∃ (rr : Int), r = some (.inl rr) ∧ σ' = srl σ [] ∧ ((rr = 1 ∧ ∀ b v, 1 ≤ b → b ≤ D → 0 ≤ v → v < sW n D b → isB L n D b v → ¬ opn n D a u b v) ∨ (rr = 0 ∧ ¬ (∀ b v, 1 ≤ b → b ≤ D → 0 ≤ v → v < sW n D b → isB L n D b v → ¬ opn n D a u b v))))
  have hI2 := hI
  obtain ⟨hO, hn, hD, hp, hm, hst, hln⟩ := hI2
  obtain ⟨⟨hO1, hO2⟩, ⟨hO3, hO4⟩, hO5, hO6, hO7, hO8⟩ := id hO
  have L_2 : ∀ (N : Nat) (b : Int), (1 ≤ b ∧ b ≤ D + 1) → (cl1 L n D a u b 0) → (D + 1 - b).toNat < N → en_wp k_X1_closesWithAll 2 [some (.inr (.inr (r_Machine, 0))), some (.inl a), some (.inl u), some (.inl b), none] [] (srl σ []) (fun r σ' => ∃ (rr : Int), r = some (.inl rr) ∧ σ' = srl σ [] ∧ ((rr = 1 ∧ ∀ b v, 1 ≤ b → b ≤ D → 0 ≤ v → v < sW n D b → isB L n D b v → ¬ opn n D a u b v) ∨ (rr = 0 ∧ ¬ (∀ b v, 1 ≤ b → b ≤ D → 0 ≤ v → v < sW n D b → isB L n D b v → ¬ opn n D a u b v)))) := by
    intro N
    induction N with
    | zero => intro b; intros; omega
    | succ N ih_2 =>
      intro b hb h4 hN_2
      have hWb := sW_b (k := b) hO
      have L_16 : ∀ (N : Nat) (v : Int), (b ≤ D) → (0 ≤ v ∧ v ≤ sW n D b) → (cl1 L n D a u b v) → (sW n D b - v).toNat < N → en_wp k_X1_closesWithAll 16 [some (.inr (.inr (r_Machine, 0))), some (.inl a), some (.inl u), some (.inl b), some (.inl v)] [] (srl σ []) (fun r σ' => ∃ (rr : Int), r = some (.inl rr) ∧ σ' = srl σ [] ∧ ((rr = 1 ∧ ∀ b v, 1 ≤ b → b ≤ D → 0 ≤ v → v < sW n D b → isB L n D b v → ¬ opn n D a u b v) ∨ (rr = 0 ∧ ¬ (∀ b v, 1 ≤ b → b ≤ D → 0 ≤ v → v < sW n D b → isB L n D b v → ¬ opn n D a u b v)))) := by
        intro N
        induction N with
        | zero => intro v; intros; omega
        | succ N ih_16 =>
          intro v hbD hv h5 hN_16
          refine wp_run 4 (pc' := 23) (ls' := [some (.inr (.inr (r_Machine, 0))), some (.inl a), some (.inl u), some (.inl b), some (.inl v)]) (st' := [.inl b, .inr (.inr (r_Shape0, 0)), .inl v]) (σ' := srl σ []) rfl ?_
          refine wp_fnv (v := .inl (sW n D b)) rfl rfl rfl rfl (ct_X5_wordsOf_Shape0 σ n D p b hI (by omega)) ?_
          show en_wp k_X1_closesWithAll 26 [some (.inr (.inr (r_Machine, 0))), some (.inl a), some (.inl u), some (.inl b), some (.inl v)] [.inl (sW n D b), .inl v] (srl σ []) _
          have q_1 : 0 ≤ sW n D b ∧ sW n D b ≤ 256 := sW_b hO
          refine wp_ic_ge rfl (by omega) (by omega) (fun h_2 => ?_) (fun h_2 => ?_)
          · show en_wp k_X1_closesWithAll 75 [some (.inr (.inr (r_Machine, 0))), some (.inl a), some (.inl u), some (.inl b), some (.inl v)] [] (srl σ []) _
            refine wp_run 2 (pc' := 2) (ls' := [some (.inr (.inr (r_Machine, 0))), some (.inl a), some (.inl u), some (.inl (b + 1)), some (.inl v)]) (st' := []) (σ' := srl σ []) rfl ?_
            refine wp_sub (l := [some (.inr (.inr (r_Machine, 0))), some (.inl a), some (.inl u), some (.inl (b + 1)), none]) (And.intro rfl (And.intro rfl (And.intro rfl (And.intro rfl trivial)))) ?_
            exact ih_2 (b + 1) (by omega) (cl1_b h5 (by omega)) (by omega)
          · show en_wp k_X1_closesWithAll 29 [some (.inr (.inr (r_Machine, 0))), some (.inl a), some (.inl u), some (.inl b), some (.inl v)] [] (srl σ []) _
            refine wp_run 5 (pc' := 36) (ls' := [some (.inr (.inr (r_Machine, 0))), some (.inl a), some (.inl u), some (.inl b), some (.inl v)]) (st' := [.inr (.inr (r_Shape0, 0)), .inl (a + b)]) (σ' := srl σ []) rfl ?_
            refine wp_fnv (v := .inl D) rfl rfl rfl rfl (ct_X5_longest_Shape0 σ n D p hI) ?_
            show en_wp k_X1_closesWithAll 39 [some (.inr (.inr (r_Machine, 0))), some (.inl a), some (.inl u), some (.inl b), some (.inl v)] [.inl D, .inl (a + b)] (srl σ []) _
            refine wp_ic_le rfl (by omega) (by omega) (fun h_3 => ?_) (fun h_3 => ?_)
            · show en_wp k_X1_closesWithAll 75 [some (.inr (.inr (r_Machine, 0))), some (.inl a), some (.inl u), some (.inl b), some (.inl v)] [] (srl σ []) _
              refine wp_run 2 (pc' := 2) (ls' := [some (.inr (.inr (r_Machine, 0))), some (.inl a), some (.inl u), some (.inl (b + 1)), some (.inl v)]) (st' := []) (σ' := srl σ []) rfl ?_
              refine wp_sub (l := [some (.inr (.inr (r_Machine, 0))), some (.inl a), some (.inl u), some (.inl (b + 1)), none]) (And.intro rfl (And.intro rfl (And.intro rfl (And.intro rfl trivial)))) ?_
              exact ih_2 (b + 1) (by omega) (cl1_sh h5 hv (by omega)) (by omega)
            · show en_wp k_X1_closesWithAll 42 [some (.inr (.inr (r_Machine, 0))), some (.inl a), some (.inl u), some (.inl b), some (.inl v)] [] (srl σ []) _
              refine wp_run 4 (pc' := 49) (ls' := [some (.inr (.inr (r_Machine, 0))), some (.inl a), some (.inl u), some (.inl b), some (.inl v)]) (st' := [.inl v, .inl b, .inr (.inr (r_Nought0, 0))]) (σ' := srl σ []) rfl ?_
              refine wp_fnv (v := .inl (bI ((0 ≤ v ∧ v < sW n D b) ∧ isB L n D b v))) rfl rfl rfl rfl (ct_X3_isBasic_Nought0_L σ n D p L _ b v hI (by omega) (by omega) g01 hLL (by omega)) ?_
              show en_wp k_X1_closesWithAll 52 [some (.inr (.inr (r_Machine, 0))), some (.inl a), some (.inl u), some (.inl b), some (.inl v)] [.inl (bI ((0 ≤ v ∧ v < sW n D b) ∧ isB L n D b v))] (srl σ []) _
              refine wp_if_eqb rfl (fun h_4 => ?_) (fun h_4 => ?_)
              · have hbv0 : ¬ isB L n D b v := fun q => h_4 ⟨by omega, q⟩
                show en_wp k_X1_closesWithAll 69 [some (.inr (.inr (r_Machine, 0))), some (.inl a), some (.inl u), some (.inl b), some (.inl v)] [] (srl σ []) _
                refine wp_run 2 (pc' := 16) (ls' := [some (.inr (.inr (r_Machine, 0))), some (.inl a), some (.inl u), some (.inl b), some (.inl (v + 1))]) (st' := []) (σ' := srl σ []) rfl ?_
                exact ih_16 (v + 1) (by omega) (by omega) (cl1_v h5 (fun h => absurd h hbv0)) (by omega)
              · have hbv := h_4.2
                show en_wp k_X1_closesWithAll 55 [some (.inr (.inr (r_Machine, 0))), some (.inl a), some (.inl u), some (.inl b), some (.inl v)] [] (srl σ []) _
                refine wp_run 5 (pc' := 61) (ls' := [some (.inr (.inr (r_Machine, 0))), some (.inl a), some (.inl u), some (.inl b), some (.inl v)]) (st' := [.inl v, .inl b, .inl u, .inl a, .inr (.inr (r_Machine, 0))]) (σ' := srl σ []) rfl ?_
                refine wp_callv rfl rfl rfl rfl (ct_X1_overlapsTooLong σ n D p a u b v hI (by omega) (by omega) (by omega) (by omega)) ?_
                rintro _ _ ⟨r_5, rfl, rfl, p_6⟩
                have p_6 : (r_5 = 1 ∧ opn n D a u b v) ∨ (r_5 = 0 ∧ ¬ opn n D a u b v) := p_6
                show en_wp k_X1_closesWithAll 64 [some (.inr (.inr (r_Machine, 0))), some (.inl a), some (.inl u), some (.inl b), some (.inl v)] [.inl r_5] (srl σ []) _
                have hop := p_6
                have hop1 : r_5 = 0 ∨ r_5 = 1 := by rcases hop with h | h <;> omega
                refine wp_if_eq rfl (by omega) (fun h_7 => ?_) (fun h_7 => ?_)
                · have hno : ¬ opn n D a u b v := by rcases hop with h | h; exfalso; omega; exact h.2
                  show en_wp k_X1_closesWithAll 69 [some (.inr (.inr (r_Machine, 0))), some (.inl a), some (.inl u), some (.inl b), some (.inl v)] [] (srl σ []) _
                  refine wp_run 2 (pc' := 16) (ls' := [some (.inr (.inr (r_Machine, 0))), some (.inl a), some (.inl u), some (.inl b), some (.inl (v + 1))]) (st' := []) (σ' := srl σ []) rfl ?_
                  exact ih_16 (v + 1) (by omega) (by omega) (cl1_v h5 (fun _ => hno)) (by omega)
                · have hyes : opn n D a u b v := by rcases hop with h | h; exact h.2; exfalso; omega
                  show en_wp k_X1_closesWithAll 67 [some (.inr (.inr (r_Machine, 0))), some (.inl a), some (.inl u), some (.inl b), some (.inl v)] [] (srl σ []) _
                  refine wp_run 1 (pc' := 68) (ls' := [some (.inr (.inr (r_Machine, 0))), some (.inl a), some (.inl u), some (.inl b), some (.inl v)]) (st' := [.inl 0]) (σ' := srl σ []) rfl ?_
                  exact wp_zret rfl (.inl rfl) ⟨0, rfl, srl_eq (l' := []) trivial trivial, (.inr ⟨rfl, fun h => h b v (by omega) (by omega) (by omega) (by omega) hbv hyes⟩)⟩
      refine wp_run 3 (pc' := 7) (ls' := [some (.inr (.inr (r_Machine, 0))), some (.inl a), some (.inl u), some (.inl b), none]) (st' := [.inr (.inr (r_Shape0, 0)), .inl b]) (σ' := srl σ []) rfl ?_
      refine wp_fnv (v := .inl D) rfl rfl rfl rfl (ct_X5_longest_Shape0 σ n D p hI) ?_
      show en_wp k_X1_closesWithAll 10 [some (.inr (.inr (r_Machine, 0))), some (.inl a), some (.inl u), some (.inl b), none] [.inl D, .inl b] (srl σ []) _
      refine wp_ic_gt rfl (by omega) (by omega) (fun h_8 => ?_) (fun h_8 => ?_)
      · show en_wp k_X1_closesWithAll 81 [some (.inr (.inr (r_Machine, 0))), some (.inl a), some (.inl u), some (.inl b), none] [] (srl σ []) _
        refine wp_run 1 (pc' := 82) (ls' := [some (.inr (.inr (r_Machine, 0))), some (.inl a), some (.inl u), some (.inl b), none]) (st' := [.inl 1]) (σ' := srl σ []) rfl ?_
        exact wp_zret rfl (.inr rfl) ⟨1, rfl, srl_eq (l' := []) trivial trivial, (.inl ⟨rfl, cl1_e h4 (by omega)⟩)⟩
      · show en_wp k_X1_closesWithAll 13 [some (.inr (.inr (r_Machine, 0))), some (.inl a), some (.inl u), some (.inl b), none] [] (srl σ []) _
        refine wp_run 2 (pc' := 16) (ls' := [some (.inr (.inr (r_Machine, 0))), some (.inl a), some (.inl u), some (.inl b), some (.inl 0)]) (st' := []) (σ' := srl σ []) rfl ?_
        exact L_16 _ 0 (by omega) (by omega) h4 (Nat.lt_succ_self _)
  refine wp_run 2 (pc' := 2) (ls' := [some (.inr (.inr (r_Machine, 0))), some (.inl a), some (.inl u), some (.inl 1), none]) (st' := []) (σ' := srl σ []) rfl ?_
  exact L_2 _ 1 (by omega) cl1_0 (Nat.lt_succ_self _)
theorem ct_X1_isClosed (σ : en_m) (n : Int) (D : Int) (p : Int) (L : Int → Int) (hI : cS0 σ n D p) (g01 : R01 ((σ r_Nought0_leading))) (hLL : ∀ x, 0 ≤ x → x < sS n D (D + 1) → (σ r_Nought0_leading) x = L x) : en_ct z_X1_isClosed [.inr (.inr (r_Machine, 0))] σ (fun r σ' => ∃ (rr : Int), r = some (.inl rr) ∧ σ' = srl σ [] ∧ ((rr = 1 ∧ cls L n D) ∨ (rr = 0 ∧ ¬ cls L n D))) := by
  show en_wp k_X1_isClosed 0 [some (.inr (.inr (r_Machine, 0))), none, none] [] (srl σ []) (fun r σ' => ∃ (rr : Int), r = some (.inl rr) ∧ σ' = srl σ [] ∧ ((rr = 1 ∧ cls L n D) ∨ (rr = 0 ∧ ¬ cls L n D)))
  have hI2 := hI
  obtain ⟨hO, hn, hD, hp, hm, hst, hln⟩ := hI2
  obtain ⟨⟨hO1, hO2⟩, ⟨hO3, hO4⟩, hO5, hO6, hO7, hO8⟩ := id hO
  have L_2 : ∀ (N : Nat) (a : Int), (1 ≤ a ∧ a ≤ D + 1) → (cl2 L n D a 0) → (D + 1 - a).toNat < N → en_wp k_X1_isClosed 2 [some (.inr (.inr (r_Machine, 0))), some (.inl a), none] [] (srl σ []) (fun r σ' => ∃ (rr : Int), r = some (.inl rr) ∧ σ' = srl σ [] ∧ ((rr = 1 ∧ cls L n D) ∨ (rr = 0 ∧ ¬ cls L n D))) := by
    intro N
    induction N with
    | zero => intro a; intros; omega
    | succ N ih_2 =>
      intro a ha h2 hN_2
      have hWa := sW_b (k := a) hO
      have L_15 : ∀ (N : Nat) (u : Int), (a ≤ D) → (0 ≤ u ∧ u ≤ sW n D a) → (cl2 L n D a u) → (sW n D a - u).toNat < N → en_wp k_X1_isClosed 15 [some (.inr (.inr (r_Machine, 0))), some (.inl a), some (.inl u)] [] (srl σ []) (fun r σ' => ∃ (rr : Int), r = some (.inl rr) ∧ σ' = srl σ [] ∧ ((rr = 1 ∧ cls L n D) ∨ (rr = 0 ∧ ¬ cls L n D))) := by
        intro N
        induction N with
        | zero => intro u; intros; omega
        | succ N ih_15 =>
          intro u haD hu h3 hN_15
          refine wp_run 4 (pc' := 21) (ls' := [some (.inr (.inr (r_Machine, 0))), some (.inl a), some (.inl u)]) (st' := [.inl a, .inr (.inr (r_Shape0, 0)), .inl u]) (σ' := srl σ []) rfl ?_
          refine wp_fnv (v := .inl (sW n D a)) rfl rfl rfl rfl (ct_X5_wordsOf_Shape0 σ n D p a hI (by omega)) ?_
          show en_wp k_X1_isClosed 24 [some (.inr (.inr (r_Machine, 0))), some (.inl a), some (.inl u)] [.inl (sW n D a), .inl u] (srl σ []) _
          have q_1 : 0 ≤ sW n D a ∧ sW n D a ≤ 256 := sW_b hO
          refine wp_ic_ge rfl (by omega) (by omega) (fun h_2 => ?_) (fun h_2 => ?_)
          · show en_wp k_X1_isClosed 56 [some (.inr (.inr (r_Machine, 0))), some (.inl a), some (.inl u)] [] (srl σ []) _
            refine wp_run 2 (pc' := 2) (ls' := [some (.inr (.inr (r_Machine, 0))), some (.inl (a + 1)), some (.inl u)]) (st' := []) (σ' := srl σ []) rfl ?_
            refine wp_sub (l := [some (.inr (.inr (r_Machine, 0))), some (.inl (a + 1)), none]) (And.intro rfl (And.intro rfl trivial)) ?_
            exact ih_2 (a + 1) (by omega) (cl2_a h3 (by omega)) (by omega)
          · show en_wp k_X1_isClosed 27 [some (.inr (.inr (r_Machine, 0))), some (.inl a), some (.inl u)] [] (srl σ []) _
            refine wp_run 4 (pc' := 33) (ls' := [some (.inr (.inr (r_Machine, 0))), some (.inl a), some (.inl u)]) (st' := [.inl u, .inl a, .inr (.inr (r_Nought0, 0))]) (σ' := srl σ []) rfl ?_
            refine wp_fnv (v := .inl (bI ((0 ≤ u ∧ u < sW n D a) ∧ isB L n D a u))) rfl rfl rfl rfl (ct_X3_isBasic_Nought0_L σ n D p L _ a u hI (by omega) (by omega) g01 hLL (by omega)) ?_
            show en_wp k_X1_isClosed 36 [some (.inr (.inr (r_Machine, 0))), some (.inl a), some (.inl u)] [.inl (bI ((0 ≤ u ∧ u < sW n D a) ∧ isB L n D a u))] (srl σ []) _
            refine wp_if_eqb rfl (fun h_3 => ?_) (fun h_3 => ?_)
            · have hbu0 : ¬ isB L n D a u := fun q => h_3 ⟨by omega, q⟩
              show en_wp k_X1_isClosed 50 [some (.inr (.inr (r_Machine, 0))), some (.inl a), some (.inl u)] [] (srl σ []) _
              refine wp_run 2 (pc' := 15) (ls' := [some (.inr (.inr (r_Machine, 0))), some (.inl a), some (.inl (u + 1))]) (st' := []) (σ' := srl σ []) rfl ?_
              exact ih_15 (u + 1) (by omega) (by omega) (cl2_u h3 (fun h => absurd h hbu0)) (by omega)
            · have hbu := h_3.2
              show en_wp k_X1_isClosed 39 [some (.inr (.inr (r_Machine, 0))), some (.inl a), some (.inl u)] [] (srl σ []) _
              refine wp_run 3 (pc' := 42) (ls' := [some (.inr (.inr (r_Machine, 0))), some (.inl a), some (.inl u)]) (st' := [.inl u, .inl a, .inr (.inr (r_Machine, 0))]) (σ' := srl σ []) rfl ?_
              refine wp_callv rfl rfl rfl rfl (ct_X1_closesWithAll σ n D p L a u hI (by omega) (by omega) g01 hLL) ?_
              rintro _ _ ⟨r_4, rfl, rfl, p_5⟩
              have p_5 : (r_4 = 1 ∧ ∀ b v, 1 ≤ b → b ≤ D → 0 ≤ v → v < sW n D b → isB L n D b v → ¬ opn n D a u b v) ∨ (r_4 = 0 ∧ ¬ (∀ b v, 1 ≤ b → b ≤ D → 0 ≤ v → v < sW n D b → isB L n D b v → ¬ opn n D a u b v)) := p_5
              show en_wp k_X1_isClosed 45 [some (.inr (.inr (r_Machine, 0))), some (.inl a), some (.inl u)] [.inl r_4] (srl σ []) _
              have hop := p_5
              have hop1 : r_4 = 0 ∨ r_4 = 1 := by rcases hop with h | h <;> omega
              refine wp_if_ne rfl (by omega) (fun h_6 => ?_) (fun h_6 => ?_)
              · have hall := (by rcases hop with h | h; exact h.2; exfalso; omega : ∀ b v, 1 ≤ b → b ≤ D → 0 ≤ v → v < sW n D b → isB L n D b v → ¬ opn n D a u b v)
                show en_wp k_X1_isClosed 50 [some (.inr (.inr (r_Machine, 0))), some (.inl a), some (.inl u)] [] (srl σ []) _
                refine wp_run 2 (pc' := 15) (ls' := [some (.inr (.inr (r_Machine, 0))), some (.inl a), some (.inl (u + 1))]) (st' := []) (σ' := srl σ []) rfl ?_
                exact ih_15 (u + 1) (by omega) (by omega) (cl2_u h3 (fun _ => hall)) (by omega)
              · have hnall := (by rcases hop with h | h; exfalso; omega; exact h.2 : ¬ ∀ b v, 1 ≤ b → b ≤ D → 0 ≤ v → v < sW n D b → isB L n D b v → ¬ opn n D a u b v)
                show en_wp k_X1_isClosed 48 [some (.inr (.inr (r_Machine, 0))), some (.inl a), some (.inl u)] [] (srl σ []) _
                refine wp_run 1 (pc' := 49) (ls' := [some (.inr (.inr (r_Machine, 0))), some (.inl a), some (.inl u)]) (st' := [.inl 0]) (σ' := srl σ []) rfl ?_
                exact wp_zret rfl (.inl rfl) ⟨0, rfl, srl_eq (l' := []) trivial trivial, (.inr ⟨rfl, fun h => hnall (fun b v h5 h6 h7 h8 h9 => h a u b v (by omega) (by omega) (by omega) (by omega) hbu h5 h6 h7 h8 h9)⟩)⟩
      refine wp_run 3 (pc' := 7) (ls' := [some (.inr (.inr (r_Machine, 0))), some (.inl a), none]) (st' := [.inr (.inr (r_Shape0, 0)), .inl a]) (σ' := srl σ []) rfl ?_
      refine wp_fnv (v := .inl D) rfl rfl rfl rfl (ct_X5_longest_Shape0 σ n D p hI) ?_
      show en_wp k_X1_isClosed 10 [some (.inr (.inr (r_Machine, 0))), some (.inl a), none] [.inl D, .inl a] (srl σ []) _
      refine wp_ic_gt rfl (by omega) (by omega) (fun h_7 => ?_) (fun h_7 => ?_)
      · show en_wp k_X1_isClosed 62 [some (.inr (.inr (r_Machine, 0))), some (.inl a), none] [] (srl σ []) _
        refine wp_run 1 (pc' := 63) (ls' := [some (.inr (.inr (r_Machine, 0))), some (.inl a), none]) (st' := [.inl 1]) (σ' := srl σ []) rfl ?_
        exact wp_zret rfl (.inr rfl) ⟨1, rfl, srl_eq (l' := []) trivial trivial, (.inl ⟨rfl, cl2_e h2 (by omega)⟩)⟩
      · show en_wp k_X1_isClosed 13 [some (.inr (.inr (r_Machine, 0))), some (.inl a), none] [] (srl σ []) _
        refine wp_run 2 (pc' := 15) (ls' := [some (.inr (.inr (r_Machine, 0))), some (.inl a), some (.inl 0)]) (st' := []) (σ' := srl σ []) rfl ?_
        exact L_15 _ 0 (by omega) (by omega) h2 (Nat.lt_succ_self _)
  refine wp_run 2 (pc' := 2) (ls' := [some (.inr (.inr (r_Machine, 0))), some (.inl 1), none]) (st' := []) (σ' := srl σ []) rfl ?_
  exact L_2 _ 1 (by omega) cl2_0 (Nat.lt_succ_self _)
