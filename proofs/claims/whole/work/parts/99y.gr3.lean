/-! contracts of methods, walked (written by wip/whole/walk.py from the annotations ann_m41) -/
theorem ct_X1_comesTo (σ : en_m) (u : Int) (v : Int) (hu : 0 ≤ u ∧ u < 81) (hv : 0 ≤ v ∧ v < 81) : en_fn z_X1_comesTo [.inr (.inr (r_Machine, 0)), .inl u, .inl v] σ (.inl (bI (bL ((σ r_Machine_reachLow)) ((σ r_Machine_reachHigh)) u v = true))) := by
  show en_wp k_X1_comesTo 0 [some (.inr (.inr (r_Machine, 0))), some (.inl u), some (.inl v), none, none] [] (srl σ []) (fun r σ' => r = some (.inl (bI (bL ((σ r_Machine_reachLow)) ((σ r_Machine_reachHigh)) u v = true))) ∧ σ' = σ)
  have hb1 := fun h => bt_val (z := σ r_Machine_reachLow u) (v := v) h
  have hb2 := fun h => bt_val (z := σ r_Machine_reachHigh u) (v := v - 64) h
  have hc1 := bI_01 (bit (σ r_Machine_reachLow u) v = true)
  have hc2 := bI_01 (bit (σ r_Machine_reachHigh u) (v - 64) = true)
  refine wp_run 2 (pc' := 3) (ls' := [some (.inr (.inr (r_Machine, 0))), some (.inl u), some (.inl v), none, none]) (st' := [.inl 64, .inl v]) (σ' := srl σ []) rfl ?_
  refine wp_ic_ge rfl (by omega) (by omega) (fun h_1 => ?_) (fun h_1 => ?_)
  · have hbv := hb2 (by omega)
    show en_wp k_X1_comesTo 17 [some (.inr (.inr (r_Machine, 0))), some (.inl u), some (.inl v), none, none] [] (srl σ []) _
    refine wp_run 3 (pc' := 22) (ls' := [some (.inr (.inr (r_Machine, 0))), some (.inl u), some (.inl v), none, none]) (st' := [.inl u, .inr (.inr (r_Machine_reachHigh, 0))]) (σ' := srl σ []) rfl ?_
    refine wp_lald0 rfl rfl (by omega) ?_
    show en_wp k_X1_comesTo 23 [some (.inr (.inr (r_Machine, 0))), some (.inl u), some (.inl v), none, none] [.inr (.inl (σ r_Machine_reachHigh u))] (srl σ []) _
    refine wp_run 9 (pc' := 33) (ls' := [some (.inr (.inr (r_Machine, 0))), some (.inl u), some (.inl v), some (.inr (.inl (en_lshr (σ r_Machine_reachHigh u) (v - 64)))), none]) (st' := [.inr (.inl 0), .inr (.inl (en_land (en_lshr (σ r_Machine_reachHigh u) (v - 64)) 1))]) (σ' := srl σ []) rfl ?_
    refine wp_lc_eq rfl (by omega) (by omega) rfl (fun h_2 => ?_) (fun h_2 => ?_)
    · show en_wp k_X1_comesTo 41 [some (.inr (.inr (r_Machine, 0))), some (.inl u), some (.inl v), some (.inr (.inl (en_lshr (σ r_Machine_reachHigh u) (v - 64)))), none] [] (srl σ []) _
      refine wp_run 1 (pc' := 42) (ls' := [some (.inr (.inr (r_Machine, 0))), some (.inl u), some (.inl v), some (.inr (.inl (en_lshr (σ r_Machine_reachHigh u) (v - 64)))), none]) (st' := [.inl 0]) (σ' := srl σ []) rfl ?_
      exact wp_zret rfl (.inl rfl) ⟨(by unfold bL; first | (rw [if_neg (by omega)]; have hq9 := bI_nz (fun q => (by assumption : ¬ _ = (0 : Int)) (hbv.trans q)); rw [bI_t hq9]) | (rw [if_neg (by omega)]; have hq9 := bI_z (hbv.symm.trans (by assumption)); rw [bI_f hq9]) | (rw [if_pos (by omega)]; have hq9 := bI_nz (fun q => (by assumption : ¬ _ = (0 : Int)) (hbv.trans q)); rw [bI_t hq9]) | (rw [if_pos (by omega)]; have hq9 := bI_z (hbv.symm.trans (by assumption)); rw [bI_f hq9])), rfl⟩
    · show en_wp k_X1_comesTo 37 [some (.inr (.inr (r_Machine, 0))), some (.inl u), some (.inl v), some (.inr (.inl (en_lshr (σ r_Machine_reachHigh u) (v - 64)))), none] [] (srl σ []) _
      refine wp_run 2 (pc' := 42) (ls' := [some (.inr (.inr (r_Machine, 0))), some (.inl u), some (.inl v), some (.inr (.inl (en_lshr (σ r_Machine_reachHigh u) (v - 64)))), none]) (st' := [.inl 1]) (σ' := srl σ []) rfl ?_
      exact wp_zret rfl (.inr rfl) ⟨(by unfold bL; first | (rw [if_neg (by omega)]; have hq9 := bI_nz (fun q => (by assumption : ¬ _ = (0 : Int)) (hbv.trans q)); rw [bI_t hq9]) | (rw [if_neg (by omega)]; have hq9 := bI_z (hbv.symm.trans (by assumption)); rw [bI_f hq9]) | (rw [if_pos (by omega)]; have hq9 := bI_nz (fun q => (by assumption : ¬ _ = (0 : Int)) (hbv.trans q)); rw [bI_t hq9]) | (rw [if_pos (by omega)]; have hq9 := bI_z (hbv.symm.trans (by assumption)); rw [bI_f hq9])), rfl⟩
  · have hbv := hb1 (by omega)
    show en_wp k_X1_comesTo 6 [some (.inr (.inr (r_Machine, 0))), some (.inl u), some (.inl v), none, none] [] (srl σ []) _
    refine wp_run 3 (pc' := 11) (ls' := [some (.inr (.inr (r_Machine, 0))), some (.inl u), some (.inl v), none, none]) (st' := [.inl u, .inr (.inr (r_Machine_reachLow, 0))]) (σ' := srl σ []) rfl ?_
    refine wp_lald0 rfl rfl (by omega) ?_
    show en_wp k_X1_comesTo 12 [some (.inr (.inr (r_Machine, 0))), some (.inl u), some (.inl v), none, none] [.inr (.inl (σ r_Machine_reachLow u))] (srl σ []) _
    refine wp_run 8 (pc' := 33) (ls' := [some (.inr (.inr (r_Machine, 0))), some (.inl u), some (.inl v), some (.inr (.inl (en_lshr (σ r_Machine_reachLow u) v))), none]) (st' := [.inr (.inl 0), .inr (.inl (en_land (en_lshr (σ r_Machine_reachLow u) v) 1))]) (σ' := srl σ []) rfl ?_
    refine wp_lc_eq rfl (by omega) (by omega) rfl (fun h_3 => ?_) (fun h_3 => ?_)
    · show en_wp k_X1_comesTo 41 [some (.inr (.inr (r_Machine, 0))), some (.inl u), some (.inl v), some (.inr (.inl (en_lshr (σ r_Machine_reachLow u) v))), none] [] (srl σ []) _
      refine wp_run 1 (pc' := 42) (ls' := [some (.inr (.inr (r_Machine, 0))), some (.inl u), some (.inl v), some (.inr (.inl (en_lshr (σ r_Machine_reachLow u) v))), none]) (st' := [.inl 0]) (σ' := srl σ []) rfl ?_
      exact wp_zret rfl (.inl rfl) ⟨(by unfold bL; first | (rw [if_neg (by omega)]; have hq9 := bI_nz (fun q => (by assumption : ¬ _ = (0 : Int)) (hbv.trans q)); rw [bI_t hq9]) | (rw [if_neg (by omega)]; have hq9 := bI_z (hbv.symm.trans (by assumption)); rw [bI_f hq9]) | (rw [if_pos (by omega)]; have hq9 := bI_nz (fun q => (by assumption : ¬ _ = (0 : Int)) (hbv.trans q)); rw [bI_t hq9]) | (rw [if_pos (by omega)]; have hq9 := bI_z (hbv.symm.trans (by assumption)); rw [bI_f hq9])), rfl⟩
    · show en_wp k_X1_comesTo 37 [some (.inr (.inr (r_Machine, 0))), some (.inl u), some (.inl v), some (.inr (.inl (en_lshr (σ r_Machine_reachLow u) v))), none] [] (srl σ []) _
      refine wp_run 2 (pc' := 42) (ls' := [some (.inr (.inr (r_Machine, 0))), some (.inl u), some (.inl v), some (.inr (.inl (en_lshr (σ r_Machine_reachLow u) v))), none]) (st' := [.inl 1]) (σ' := srl σ []) rfl ?_
      exact wp_zret rfl (.inr rfl) ⟨(by unfold bL; first | (rw [if_neg (by omega)]; have hq9 := bI_nz (fun q => (by assumption : ¬ _ = (0 : Int)) (hbv.trans q)); rw [bI_t hq9]) | (rw [if_neg (by omega)]; have hq9 := bI_z (hbv.symm.trans (by assumption)); rw [bI_f hq9]) | (rw [if_pos (by omega)]; have hq9 := bI_nz (fun q => (by assumption : ¬ _ = (0 : Int)) (hbv.trans q)); rw [bI_t hq9]) | (rw [if_pos (by omega)]; have hq9 := bI_z (hbv.symm.trans (by assumption)); rw [bI_f hq9])), rfl⟩
set_option maxRecDepth 8000 in
theorem ct_X1_findWays (σ : en_m) (n : Int) (D : Int) (p : Int) (L : Int → Int) (q : Int) (m : Int) (hI : cS0 σ n D p) (hq : (1 ≤ q ∧ q ≤ D) ∧ (q = 1 ∨ q + 1 ≤ D)) (hm : m = sW n D q) (g01 : R01 ((σ r_Nought0_leading))) (hLL : ∀ x, 0 ≤ x → x < sS n D (D + 1) → (σ r_Nought0_leading) x = L x) : en_ct z_X1_findWays [.inr (.inr (r_Machine, 0)), .inl q, .inl m] σ (fun r σ' => ∃ (f_Machine_reachLow : Int → Int), ∃ (f_Machine_reachHigh : Int → Int), r = none ∧ σ' = srl σ [(r_Machine_reachLow, f_Machine_reachLow), (r_Machine_reachHigh, f_Machine_reachHigh)] ∧ (∀ a b, 0 ≤ a → a < sW n D q → 0 ≤ b → b < sW n D q → bL f_Machine_reachLow f_Machine_reachHigh a b = gT L n D q a b)) := by
  show en_wp k_X1_findWays 0 [some (.inr (.inr (r_Machine, 0))), some (.inl q), some (.inl m), none, none, none] [] (srl σ []) (fun r σ' => ∃ (f_Machine_reachLow : Int → Int), ∃ (f_Machine_reachHigh : Int → Int), r = none ∧ σ' = srl σ [(r_Machine_reachLow, f_Machine_reachLow), (r_Machine_reachHigh, f_Machine_reachHigh)] ∧ (∀ a b, 0 ≤ a → a < sW n D q → 0 ≤ b → b < sW n D q → bL f_Machine_reachLow f_Machine_reachHigh a b = gT L n D q a b))
  have hI2 := hI
  obtain ⟨hO, hn, hD, hp, hm, hst, hln⟩ := hI2
  obtain ⟨⟨hO1, hO2⟩, ⟨hO3, hO4⟩, hO5, hO6, hO7, hO8⟩ := id hO
  have hWq := sW_b (k := q) hO
  have h81 := sW_81 hO hq.2
  have L_111 : ∀ (N : Nat) (o : Int) (A9 : Int → Int) (B9 : Int → Int), (0 ≤ o ∧ o ≤ sW n D q) → (wG (fun u v => stB L n D q u v n.toNat) (sW n D q) (bL A9 B9) o 0 0) → (sW n D q - o).toNat < N → en_wp k_X1_findWays 111 [some (.inr (.inr (r_Machine, 0))), some (.inl q), some (.inl m), some (.inl o), none, none] [] (srl σ [(r_Machine_reachLow, A9), (r_Machine_reachHigh, B9)]) (fun r σ' => ∃ (f_Machine_reachLow : Int → Int), ∃ (f_Machine_reachHigh : Int → Int), r = none ∧ σ' = srl σ [(r_Machine_reachLow, f_Machine_reachLow), (r_Machine_reachHigh, f_Machine_reachHigh)] ∧ (∀ a b, 0 ≤ a → a < sW n D q → 0 ≤ b → b < sW n D q → bL f_Machine_reachLow f_Machine_reachHigh a b = gT L n D q a b)) := by
    intro N
    induction N with
    | zero => intro o A9 B9; intros; omega
    | succ N ih_111 =>
      intro o A9 B9 ho hG hN_111
      have L_119 : ∀ (N : Nat) (u : Int) (A9 : Int → Int) (B9 : Int → Int), (o < sW n D q) → (0 ≤ u ∧ u ≤ sW n D q) → (wG (fun u v => stB L n D q u v n.toNat) (sW n D q) (bL A9 B9) o u 0) → (sW n D q - u).toNat < N → en_wp k_X1_findWays 119 [some (.inr (.inr (r_Machine, 0))), some (.inl q), some (.inl m), some (.inl o), some (.inl u), none] [] (srl σ [(r_Machine_reachLow, A9), (r_Machine_reachHigh, B9)]) (fun r σ' => ∃ (f_Machine_reachLow : Int → Int), ∃ (f_Machine_reachHigh : Int → Int), r = none ∧ σ' = srl σ [(r_Machine_reachLow, f_Machine_reachLow), (r_Machine_reachHigh, f_Machine_reachHigh)] ∧ (∀ a b, 0 ≤ a → a < sW n D q → 0 ≤ b → b < sW n D q → bL f_Machine_reachLow f_Machine_reachHigh a b = gT L n D q a b)) := by
        intro N
        induction N with
        | zero => intro u A9 B9; intros; omega
        | succ N ih_119 =>
          intro u A9 B9 hoo hu hG hN_119
          refine wp_run 2 (pc' := 122) (ls' := [some (.inr (.inr (r_Machine, 0))), some (.inl q), some (.inl m), some (.inl o), some (.inl u), none]) (st' := [.inl m, .inl u]) (σ' := srl σ [(r_Machine_reachLow, A9), (r_Machine_reachHigh, B9)]) rfl ?_
          refine wp_ic_ge rfl (by omega) (by omega) (fun h_1 => ?_) (fun h_1 => ?_)
          · show en_wp k_X1_findWays 173 [some (.inr (.inr (r_Machine, 0))), some (.inl q), some (.inl m), some (.inl o), some (.inl u), none] [] (srl σ [(r_Machine_reachLow, A9), (r_Machine_reachHigh, B9)]) _
            refine wp_run 2 (pc' := 111) (ls' := [some (.inr (.inr (r_Machine, 0))), some (.inl q), some (.inl m), some (.inl (o + 1)), some (.inl u), none]) (st' := []) (σ' := srl σ [(r_Machine_reachLow, A9), (r_Machine_reachHigh, B9)]) rfl ?_
            refine wp_sub (l := [some (.inr (.inr (r_Machine, 0))), some (.inl q), some (.inl m), some (.inl (o + 1)), none, none]) (And.intro rfl (And.intro rfl (And.intro rfl (And.intro rfl trivial)))) ?_
            exact ih_111 (o + 1) A9 B9 (by omega) (wG_next hG (by omega)) (by omega)
          · show en_wp k_X1_findWays 125 [some (.inr (.inr (r_Machine, 0))), some (.inl q), some (.inl m), some (.inl o), some (.inl u), none] [] (srl σ [(r_Machine_reachLow, A9), (r_Machine_reachHigh, B9)]) _
            refine wp_run 3 (pc' := 129) (ls' := [some (.inr (.inr (r_Machine, 0))), some (.inl q), some (.inl m), some (.inl o), some (.inl u), none]) (st' := [.inl o, .inl u, .inr (.inr (r_Machine, 0))]) (σ' := srl σ [(r_Machine_reachLow, A9), (r_Machine_reachHigh, B9)]) rfl ?_
            refine wp_fnv (v := .inl (bI (bL (A9) (B9) u o = true))) rfl rfl rfl rfl (ct_X1_comesTo (srl σ [(r_Machine_reachLow, A9), (r_Machine_reachHigh, B9)]) u o (by omega) (by omega)) ?_
            show en_wp k_X1_findWays 132 [some (.inr (.inr (r_Machine, 0))), some (.inl q), some (.inl m), some (.inl o), some (.inl u), none] [.inl (bI (bL (A9) (B9) u o = true))] (srl σ [(r_Machine_reachLow, A9), (r_Machine_reachHigh, B9)]) _
            refine wp_if_eqb rfl (fun h_2 => ?_) (fun h_2 => ?_)
            · show en_wp k_X1_findWays 167 [some (.inr (.inr (r_Machine, 0))), some (.inl q), some (.inl m), some (.inl o), some (.inl u), none] [] (srl σ [(r_Machine_reachLow, A9), (r_Machine_reachHigh, B9)]) _
              refine wp_run 2 (pc' := 119) (ls' := [some (.inr (.inr (r_Machine, 0))), some (.inl q), some (.inl m), some (.inl o), some (.inl (u + 1)), none]) (st' := []) (σ' := srl σ [(r_Machine_reachLow, A9), (r_Machine_reachHigh, B9)]) rfl ?_
              exact ih_119 (u + 1) A9 B9 (by omega) (by omega) (wG_skip hG ⟨ho.1, hoo⟩ (by omega) (by assumption)) (by omega)
            · show en_wp k_X1_findWays 135 [some (.inr (.inr (r_Machine, 0))), some (.inl q), some (.inl m), some (.inl o), some (.inl u), none] [] (srl σ [(r_Machine_reachLow, A9), (r_Machine_reachHigh, B9)]) _
              refine wp_run 4 (pc' := 142) (ls' := [some (.inr (.inr (r_Machine, 0))), some (.inl q), some (.inl m), some (.inl o), some (.inl u), none]) (st' := [.inl u, .inr (.inr (r_Machine_reachLow, 0)), .inl u, .inr (.inr (r_Machine_reachLow, 0))]) (σ' := srl σ [(r_Machine_reachLow, A9), (r_Machine_reachHigh, B9)]) rfl ?_
              refine wp_lald0 rfl rfl (by omega) ?_
              show en_wp k_X1_findWays 143 [some (.inr (.inr (r_Machine, 0))), some (.inl q), some (.inl m), some (.inl o), some (.inl u), none] [.inr (.inl (A9 u)), .inl u, .inr (.inr (r_Machine_reachLow, 0))] (srl σ [(r_Machine_reachLow, A9), (r_Machine_reachHigh, B9)]) _
              refine wp_run 3 (pc' := 148) (ls' := [some (.inr (.inr (r_Machine, 0))), some (.inl q), some (.inl m), some (.inl o), some (.inl u), none]) (st' := [.inl o, .inr (.inr (r_Machine_reachLow, 0)), .inr (.inl (A9 u)), .inl u, .inr (.inr (r_Machine_reachLow, 0))]) (σ' := srl σ [(r_Machine_reachLow, A9), (r_Machine_reachHigh, B9)]) rfl ?_
              refine wp_lald0 rfl rfl (by omega) ?_
              show en_wp k_X1_findWays 149 [some (.inr (.inr (r_Machine, 0))), some (.inl q), some (.inl m), some (.inl o), some (.inl u), none] [.inr (.inl (A9 o)), .inr (.inl (A9 u)), .inl u, .inr (.inr (r_Machine_reachLow, 0))] (srl σ [(r_Machine_reachLow, A9), (r_Machine_reachHigh, B9)]) _
              refine wp_run 1 (pc' := 150) (ls' := [some (.inr (.inr (r_Machine, 0))), some (.inl q), some (.inl m), some (.inl o), some (.inl u), none]) (st' := [.inr (.inl (en_lor (A9 u) (A9 o))), .inl u, .inr (.inr (r_Machine_reachLow, 0))]) (σ' := srl σ [(r_Machine_reachLow, A9), (r_Machine_reachHigh, B9)]) rfl ?_
              refine wp_last0 rfl rfl (by omega) (wp_wr (l2 := [(r_Machine_reachLow, (up A9 u (en_lor (A9 u) (A9 o)))), (r_Machine_reachHigh, B9)]) rfl ?_)
              show en_wp k_X1_findWays 151 [some (.inr (.inr (r_Machine, 0))), some (.inl q), some (.inl m), some (.inl o), some (.inl u), none] [] (srl σ [(r_Machine_reachLow, (up A9 u (en_lor (A9 u) (A9 o)))), (r_Machine_reachHigh, B9)]) _
              refine wp_run 4 (pc' := 158) (ls' := [some (.inr (.inr (r_Machine, 0))), some (.inl q), some (.inl m), some (.inl o), some (.inl u), none]) (st' := [.inl u, .inr (.inr (r_Machine_reachHigh, 0)), .inl u, .inr (.inr (r_Machine_reachHigh, 0))]) (σ' := srl σ [(r_Machine_reachLow, (up A9 u (en_lor (A9 u) (A9 o)))), (r_Machine_reachHigh, B9)]) rfl ?_
              refine wp_lald0 rfl rfl (by omega) ?_
              show en_wp k_X1_findWays 159 [some (.inr (.inr (r_Machine, 0))), some (.inl q), some (.inl m), some (.inl o), some (.inl u), none] [.inr (.inl (B9 u)), .inl u, .inr (.inr (r_Machine_reachHigh, 0))] (srl σ [(r_Machine_reachLow, (up A9 u (en_lor (A9 u) (A9 o)))), (r_Machine_reachHigh, B9)]) _
              refine wp_run 3 (pc' := 164) (ls' := [some (.inr (.inr (r_Machine, 0))), some (.inl q), some (.inl m), some (.inl o), some (.inl u), none]) (st' := [.inl o, .inr (.inr (r_Machine_reachHigh, 0)), .inr (.inl (B9 u)), .inl u, .inr (.inr (r_Machine_reachHigh, 0))]) (σ' := srl σ [(r_Machine_reachLow, (up A9 u (en_lor (A9 u) (A9 o)))), (r_Machine_reachHigh, B9)]) rfl ?_
              refine wp_lald0 rfl rfl (by omega) ?_
              show en_wp k_X1_findWays 165 [some (.inr (.inr (r_Machine, 0))), some (.inl q), some (.inl m), some (.inl o), some (.inl u), none] [.inr (.inl (B9 o)), .inr (.inl (B9 u)), .inl u, .inr (.inr (r_Machine_reachHigh, 0))] (srl σ [(r_Machine_reachLow, (up A9 u (en_lor (A9 u) (A9 o)))), (r_Machine_reachHigh, B9)]) _
              refine wp_run 1 (pc' := 166) (ls' := [some (.inr (.inr (r_Machine, 0))), some (.inl q), some (.inl m), some (.inl o), some (.inl u), none]) (st' := [.inr (.inl (en_lor (B9 u) (B9 o))), .inl u, .inr (.inr (r_Machine_reachHigh, 0))]) (σ' := srl σ [(r_Machine_reachLow, (up A9 u (en_lor (A9 u) (A9 o)))), (r_Machine_reachHigh, B9)]) rfl ?_
              refine wp_last0 rfl rfl (by omega) (wp_wr (l2 := [(r_Machine_reachLow, (up A9 u (en_lor (A9 u) (A9 o)))), (r_Machine_reachHigh, (up B9 u (en_lor (B9 u) (B9 o))))]) rfl ?_)
              show en_wp k_X1_findWays 167 [some (.inr (.inr (r_Machine, 0))), some (.inl q), some (.inl m), some (.inl o), some (.inl u), none] [] (srl σ [(r_Machine_reachLow, (up A9 u (en_lor (A9 u) (A9 o)))), (r_Machine_reachHigh, (up B9 u (en_lor (B9 u) (B9 o))))]) _
              refine wp_run 2 (pc' := 119) (ls' := [some (.inr (.inr (r_Machine, 0))), some (.inl q), some (.inl m), some (.inl o), some (.inl (u + 1)), none]) (st' := []) (σ' := srl σ [(r_Machine_reachLow, (up A9 u (en_lor (A9 u) (A9 o)))), (r_Machine_reachHigh, (up B9 u (en_lor (B9 u) (B9 o))))]) rfl ?_
              exact ih_119 (u + 1) (up A9 u (en_lor (A9 u) (A9 o))) (up B9 u (en_lor (B9 u) (B9 o))) (by omega) (by omega) (wG_or hG ⟨ho.1, hoo⟩ (by omega) (by assumption) (fun a b _ _ _ _ => bL_or a b)) (by omega)
      refine wp_run 2 (pc' := 113) (ls' := [some (.inr (.inr (r_Machine, 0))), some (.inl q), some (.inl m), some (.inl o), none, none]) (st' := [.inl m, .inl o]) (σ' := srl σ [(r_Machine_reachLow, A9), (r_Machine_reachHigh, B9)]) rfl ?_
      refine wp_ic_ge rfl (by omega) (by omega) (fun h_3 => ?_) (fun h_3 => ?_)
      · show en_wp k_X1_findWays 179 [some (.inr (.inr (r_Machine, 0))), some (.inl q), some (.inl m), some (.inl o), none, none] [] (srl σ [(r_Machine_reachLow, A9), (r_Machine_reachHigh, B9)]) _
        exact wp_vret rfl ⟨A9, B9, rfl, srl_eq (l' := [(r_Machine_reachLow, A9), (r_Machine_reachHigh, B9)]) (And.intro rfl (And.intro rfl trivial)) (And.intro rfl (And.intro rfl trivial)), (wG_fin hG (by omega) rfl)⟩
      · show en_wp k_X1_findWays 116 [some (.inr (.inr (r_Machine, 0))), some (.inl q), some (.inl m), some (.inl o), none, none] [] (srl σ [(r_Machine_reachLow, A9), (r_Machine_reachHigh, B9)]) _
        refine wp_run 2 (pc' := 119) (ls' := [some (.inr (.inr (r_Machine, 0))), some (.inl q), some (.inl m), some (.inl o), some (.inl 0), none]) (st' := []) (σ' := srl σ [(r_Machine_reachLow, A9), (r_Machine_reachHigh, B9)]) rfl ?_
        exact L_119 _ 0 A9 B9 (by omega) (by omega) hG (Nat.lt_succ_self _)
  have L_2 : ∀ (N : Nat) (w : Int) (A9 : Int → Int) (B9 : Int → Int), (0 ≤ w ∧ w ≤ sW n D q) → (cG1 L n D q (sW n D q) (bL A9 B9) w) → (sW n D q - w).toNat < N → en_wp k_X1_findWays 2 [some (.inr (.inr (r_Machine, 0))), some (.inl q), some (.inl m), some (.inl w), none, none] [] (srl σ [(r_Machine_reachLow, A9), (r_Machine_reachHigh, B9)]) (fun r σ' => ∃ (f_Machine_reachLow : Int → Int), ∃ (f_Machine_reachHigh : Int → Int), r = none ∧ σ' = srl σ [(r_Machine_reachLow, f_Machine_reachLow), (r_Machine_reachHigh, f_Machine_reachHigh)] ∧ (∀ a b, 0 ≤ a → a < sW n D q → 0 ≤ b → b < sW n D q → bL f_Machine_reachLow f_Machine_reachHigh a b = gT L n D q a b)) := by
    intro N
    induction N with
    | zero => intro w A9 B9; intros; omega
    | succ N ih_2 =>
      intro w A9 B9 hw hG hN_2
      have L_24 : ∀ (N : Nat) (x : Int) (A9 : Int → Int) (B9 : Int → Int), (w < sW n D q) → (0 ≤ x ∧ x ≤ n) → (cG1 L n D q (sW n D q) (bL A9 B9) w) → (cG2 L n D q (sW n D q) (bL A9 B9) w x) → (n - x).toNat < N → en_wp k_X1_findWays 24 [some (.inr (.inr (r_Machine, 0))), some (.inl q), some (.inl m), some (.inl w), some (.inl x), none] [] (srl σ [(r_Machine_reachLow, A9), (r_Machine_reachHigh, B9)]) (fun r σ' => ∃ (f_Machine_reachLow : Int → Int), ∃ (f_Machine_reachHigh : Int → Int), r = none ∧ σ' = srl σ [(r_Machine_reachLow, f_Machine_reachLow), (r_Machine_reachHigh, f_Machine_reachHigh)] ∧ (∀ a b, 0 ≤ a → a < sW n D q → 0 ≤ b → b < sW n D q → bL f_Machine_reachLow f_Machine_reachHigh a b = gT L n D q a b)) := by
        intro N
        induction N with
        | zero => intro x A9 B9; intros; omega
        | succ N ih_24 =>
          intro x A9 B9 hww hx hG hH hN_24
          refine wp_run 3 (pc' := 30) (ls' := [some (.inr (.inr (r_Machine, 0))), some (.inl q), some (.inl m), some (.inl w), some (.inl x), none]) (st' := [.inr (.inr (r_Shape0, 0)), .inl x]) (σ' := srl σ [(r_Machine_reachLow, A9), (r_Machine_reachHigh, B9)]) rfl ?_
          refine wp_fnv (v := .inl n) rfl rfl rfl rfl (ct_X5_lettersTold_Shape0 (srl σ [(r_Machine_reachLow, A9), (r_Machine_reachHigh, B9)]) n D p hI) ?_
          show en_wp k_X1_findWays 33 [some (.inr (.inr (r_Machine, 0))), some (.inl q), some (.inl m), some (.inl w), some (.inl x), none] [.inl n, .inl x] (srl σ [(r_Machine_reachLow, A9), (r_Machine_reachHigh, B9)]) _
          refine wp_ic_ge rfl (by omega) (by omega) (fun h_4 => ?_) (fun h_4 => ?_)
          · show en_wp k_X1_findWays 103 [some (.inr (.inr (r_Machine, 0))), some (.inl q), some (.inl m), some (.inl w), some (.inl x), none] [] (srl σ [(r_Machine_reachLow, A9), (r_Machine_reachHigh, B9)]) _
            refine wp_run 2 (pc' := 2) (ls' := [some (.inr (.inr (r_Machine, 0))), some (.inl q), some (.inl m), some (.inl (w + 1)), some (.inl x), none]) (st' := []) (σ' := srl σ [(r_Machine_reachLow, A9), (r_Machine_reachHigh, B9)]) rfl ?_
            refine wp_sub (l := [some (.inr (.inr (r_Machine, 0))), some (.inl q), some (.inl m), some (.inl (w + 1)), none, none]) (And.intro rfl (And.intro rfl (And.intro rfl (And.intro rfl trivial)))) ?_
            exact ih_2 (w + 1) A9 B9 (by omega) (cG_row hG hH (by omega)) (by omega)
          · show en_wp k_X1_findWays 36 [some (.inr (.inr (r_Machine, 0))), some (.inl q), some (.inl m), some (.inl w), some (.inl x), none] [] (srl σ [(r_Machine_reachLow, A9), (r_Machine_reachHigh, B9)]) _
            refine wp_run 4 (pc' := 41) (ls' := [some (.inr (.inr (r_Machine, 0))), some (.inl q), some (.inl m), some (.inl w), some (.inl x), none]) (st' := [.inl x, .inl w, .inl q, .inr (.inr (r_Machine, 0))]) (σ' := srl σ [(r_Machine_reachLow, A9), (r_Machine_reachHigh, B9)]) rfl ?_
            refine wp_fnv (v := .inl (stp L n D q w x)) rfl rfl rfl rfl (ct_X1_step (srl σ [(r_Machine_reachLow, A9), (r_Machine_reachHigh, B9)]) n D p L q w x hI (by omega) (by omega) (by omega) g01 hLL) ?_
            show en_wp k_X1_findWays 44 [some (.inr (.inr (r_Machine, 0))), some (.inl q), some (.inl m), some (.inl w), some (.inl x), none] [.inl (stp L n D q w x)] (srl σ [(r_Machine_reachLow, A9), (r_Machine_reachHigh, B9)]) _
            have q_5 : -1 ≤ stp L n D q w x ∧ stp L n D q w x < sW n D q := stp_b _ (by omega)
            refine wp_run 3 (pc' := 49) (ls' := [some (.inr (.inr (r_Machine, 0))), some (.inl q), some (.inl m), some (.inl w), some (.inl x), some (.inl (stp L n D q w x))]) (st' := [.inl (-1), .inl (stp L n D q w x)]) (σ' := srl σ [(r_Machine_reachLow, A9), (r_Machine_reachHigh, B9)]) rfl ?_
            refine wp_ic_eq rfl (by omega) (by omega) (fun h_6 => ?_) (fun h_6 => ?_)
            · show en_wp k_X1_findWays 75 [some (.inr (.inr (r_Machine, 0))), some (.inl q), some (.inl m), some (.inl w), some (.inl x), some (.inl (stp L n D q w x))] [] (srl σ [(r_Machine_reachLow, A9), (r_Machine_reachHigh, B9)]) _
              refine wp_run 2 (pc' := 78) (ls' := [some (.inr (.inr (r_Machine, 0))), some (.inl q), some (.inl m), some (.inl w), some (.inl x), some (.inl (stp L n D q w x))]) (st' := [.inl (-1), .inl (stp L n D q w x)]) (σ' := srl σ [(r_Machine_reachLow, A9), (r_Machine_reachHigh, B9)]) rfl ?_
              refine wp_ic_eq rfl (by omega) (by omega) (fun h_7 => ?_) (fun h_7 => ?_)
              · show en_wp k_X1_findWays 97 [some (.inr (.inr (r_Machine, 0))), some (.inl q), some (.inl m), some (.inl w), some (.inl x), some (.inl (stp L n D q w x))] [] (srl σ [(r_Machine_reachLow, A9), (r_Machine_reachHigh, B9)]) _
                refine wp_run 2 (pc' := 24) (ls' := [some (.inr (.inr (r_Machine, 0))), some (.inl q), some (.inl m), some (.inl w), some (.inl (x + 1)), some (.inl (stp L n D q w x))]) (st' := []) (σ' := srl σ [(r_Machine_reachLow, A9), (r_Machine_reachHigh, B9)]) rfl ?_
                refine wp_sub (l := [some (.inr (.inr (r_Machine, 0))), some (.inl q), some (.inl m), some (.inl w), some (.inl (x + 1)), none]) (And.intro rfl (And.intro rfl (And.intro rfl (And.intro rfl (And.intro rfl trivial))))) ?_
                exact ih_24 (x + 1) A9 B9 (by omega) (by omega) hG (cG_no hx.1 (by omega) hH) (by omega)
              · show en_wp k_X1_findWays 81 [some (.inr (.inr (r_Machine, 0))), some (.inl q), some (.inl m), some (.inl w), some (.inl x), some (.inl (stp L n D q w x))] [] (srl σ [(r_Machine_reachLow, A9), (r_Machine_reachHigh, B9)]) _
                refine wp_run 4 (pc' := 87) (ls' := [some (.inr (.inr (r_Machine, 0))), some (.inl q), some (.inl m), some (.inl w), some (.inl x), some (.inl (stp L n D q w x))]) (st' := [.inl w, .inr (.inr (r_Machine_reachHigh, 0)), .inl w, .inr (.inr (r_Machine_reachHigh, 0))]) (σ' := srl σ [(r_Machine_reachLow, A9), (r_Machine_reachHigh, B9)]) rfl ?_
                refine wp_lald0 rfl rfl (by omega) ?_
                show en_wp k_X1_findWays 88 [some (.inr (.inr (r_Machine, 0))), some (.inl q), some (.inl m), some (.inl w), some (.inl x), some (.inl (stp L n D q w x))] [.inr (.inl (B9 w)), .inl w, .inr (.inr (r_Machine_reachHigh, 0))] (srl σ [(r_Machine_reachLow, A9), (r_Machine_reachHigh, B9)]) _
                refine wp_run 6 (pc' := 96) (ls' := [some (.inr (.inr (r_Machine, 0))), some (.inl q), some (.inl m), some (.inl w), some (.inl x), some (.inl (stp L n D q w x))]) (st' := [.inr (.inl (en_lor (B9 w) (en_lshl 1 ((stp L n D q w x) - 64)))), .inl w, .inr (.inr (r_Machine_reachHigh, 0))]) (σ' := srl σ [(r_Machine_reachLow, A9), (r_Machine_reachHigh, B9)]) rfl ?_
                refine wp_last0 rfl rfl (by omega) (wp_wr (l2 := [(r_Machine_reachLow, A9), (r_Machine_reachHigh, (up B9 w (en_lor (B9 w) (en_lshl 1 ((stp L n D q w x) - 64)))))]) rfl ?_)
                show en_wp k_X1_findWays 97 [some (.inr (.inr (r_Machine, 0))), some (.inl q), some (.inl m), some (.inl w), some (.inl x), some (.inl (stp L n D q w x))] [] (srl σ [(r_Machine_reachLow, A9), (r_Machine_reachHigh, (up B9 w (en_lor (B9 w) (en_lshl 1 ((stp L n D q w x) - 64)))))]) _
                refine wp_run 2 (pc' := 24) (ls' := [some (.inr (.inr (r_Machine, 0))), some (.inl q), some (.inl m), some (.inl w), some (.inl (x + 1)), some (.inl (stp L n D q w x))]) (st' := []) (σ' := srl σ [(r_Machine_reachLow, A9), (r_Machine_reachHigh, (up B9 w (en_lor (B9 w) (en_lshl 1 ((stp L n D q w x) - 64)))))]) rfl ?_
                refine wp_sub (l := [some (.inr (.inr (r_Machine, 0))), some (.inl q), some (.inl m), some (.inl w), some (.inl (x + 1)), none]) (And.intro rfl (And.intro rfl (And.intro rfl (And.intro rfl (And.intro rfl trivial))))) ?_
                exact ih_24 (x + 1) A9 (up B9 w (en_lor (B9 w) (en_lshl 1 ((stp L n D q w x) - 64)))) (by omega) (by omega) (cG_hit hx.1 rfl (fun a b _ _ b0 b1 => bL_hi (by omega) a b (by omega)) hw.1 hG hH).1 (cG_hit hx.1 rfl (fun a b _ _ b0 b1 => bL_hi (by omega) a b (by omega)) hw.1 hG hH).2 (by omega)
            · show en_wp k_X1_findWays 52 [some (.inr (.inr (r_Machine, 0))), some (.inl q), some (.inl m), some (.inl w), some (.inl x), some (.inl (stp L n D q w x))] [] (srl σ [(r_Machine_reachLow, A9), (r_Machine_reachHigh, B9)]) _
              refine wp_run 2 (pc' := 56) (ls' := [some (.inr (.inr (r_Machine, 0))), some (.inl q), some (.inl m), some (.inl w), some (.inl x), some (.inl (stp L n D q w x))]) (st' := [.inl 64, .inl (stp L n D q w x)]) (σ' := srl σ [(r_Machine_reachLow, A9), (r_Machine_reachHigh, B9)]) rfl ?_
              refine wp_ic_ge rfl (by omega) (by omega) (fun h_8 => ?_) (fun h_8 => ?_)
              · show en_wp k_X1_findWays 75 [some (.inr (.inr (r_Machine, 0))), some (.inl q), some (.inl m), some (.inl w), some (.inl x), some (.inl (stp L n D q w x))] [] (srl σ [(r_Machine_reachLow, A9), (r_Machine_reachHigh, B9)]) _
                refine wp_run 2 (pc' := 78) (ls' := [some (.inr (.inr (r_Machine, 0))), some (.inl q), some (.inl m), some (.inl w), some (.inl x), some (.inl (stp L n D q w x))]) (st' := [.inl (-1), .inl (stp L n D q w x)]) (σ' := srl σ [(r_Machine_reachLow, A9), (r_Machine_reachHigh, B9)]) rfl ?_
                refine wp_ic_eq rfl (by omega) (by omega) (fun h_9 => ?_) (fun h_9 => ?_)
                · show en_wp k_X1_findWays 97 [some (.inr (.inr (r_Machine, 0))), some (.inl q), some (.inl m), some (.inl w), some (.inl x), some (.inl (stp L n D q w x))] [] (srl σ [(r_Machine_reachLow, A9), (r_Machine_reachHigh, B9)]) _
                  refine wp_run 2 (pc' := 24) (ls' := [some (.inr (.inr (r_Machine, 0))), some (.inl q), some (.inl m), some (.inl w), some (.inl (x + 1)), some (.inl (stp L n D q w x))]) (st' := []) (σ' := srl σ [(r_Machine_reachLow, A9), (r_Machine_reachHigh, B9)]) rfl ?_
                  refine wp_sub (l := [some (.inr (.inr (r_Machine, 0))), some (.inl q), some (.inl m), some (.inl w), some (.inl (x + 1)), none]) (And.intro rfl (And.intro rfl (And.intro rfl (And.intro rfl (And.intro rfl trivial))))) ?_
                  exact ih_24 (x + 1) A9 B9 (by omega) (by omega) hG (cG_no hx.1 (by omega) hH) (by omega)
                · show en_wp k_X1_findWays 81 [some (.inr (.inr (r_Machine, 0))), some (.inl q), some (.inl m), some (.inl w), some (.inl x), some (.inl (stp L n D q w x))] [] (srl σ [(r_Machine_reachLow, A9), (r_Machine_reachHigh, B9)]) _
                  refine wp_run 4 (pc' := 87) (ls' := [some (.inr (.inr (r_Machine, 0))), some (.inl q), some (.inl m), some (.inl w), some (.inl x), some (.inl (stp L n D q w x))]) (st' := [.inl w, .inr (.inr (r_Machine_reachHigh, 0)), .inl w, .inr (.inr (r_Machine_reachHigh, 0))]) (σ' := srl σ [(r_Machine_reachLow, A9), (r_Machine_reachHigh, B9)]) rfl ?_
                  refine wp_lald0 rfl rfl (by omega) ?_
                  show en_wp k_X1_findWays 88 [some (.inr (.inr (r_Machine, 0))), some (.inl q), some (.inl m), some (.inl w), some (.inl x), some (.inl (stp L n D q w x))] [.inr (.inl (B9 w)), .inl w, .inr (.inr (r_Machine_reachHigh, 0))] (srl σ [(r_Machine_reachLow, A9), (r_Machine_reachHigh, B9)]) _
                  refine wp_run 6 (pc' := 96) (ls' := [some (.inr (.inr (r_Machine, 0))), some (.inl q), some (.inl m), some (.inl w), some (.inl x), some (.inl (stp L n D q w x))]) (st' := [.inr (.inl (en_lor (B9 w) (en_lshl 1 ((stp L n D q w x) - 64)))), .inl w, .inr (.inr (r_Machine_reachHigh, 0))]) (σ' := srl σ [(r_Machine_reachLow, A9), (r_Machine_reachHigh, B9)]) rfl ?_
                  refine wp_last0 rfl rfl (by omega) (wp_wr (l2 := [(r_Machine_reachLow, A9), (r_Machine_reachHigh, (up B9 w (en_lor (B9 w) (en_lshl 1 ((stp L n D q w x) - 64)))))]) rfl ?_)
                  show en_wp k_X1_findWays 97 [some (.inr (.inr (r_Machine, 0))), some (.inl q), some (.inl m), some (.inl w), some (.inl x), some (.inl (stp L n D q w x))] [] (srl σ [(r_Machine_reachLow, A9), (r_Machine_reachHigh, (up B9 w (en_lor (B9 w) (en_lshl 1 ((stp L n D q w x) - 64)))))]) _
                  refine wp_run 2 (pc' := 24) (ls' := [some (.inr (.inr (r_Machine, 0))), some (.inl q), some (.inl m), some (.inl w), some (.inl (x + 1)), some (.inl (stp L n D q w x))]) (st' := []) (σ' := srl σ [(r_Machine_reachLow, A9), (r_Machine_reachHigh, (up B9 w (en_lor (B9 w) (en_lshl 1 ((stp L n D q w x) - 64)))))]) rfl ?_
                  refine wp_sub (l := [some (.inr (.inr (r_Machine, 0))), some (.inl q), some (.inl m), some (.inl w), some (.inl (x + 1)), none]) (And.intro rfl (And.intro rfl (And.intro rfl (And.intro rfl (And.intro rfl trivial))))) ?_
                  exact ih_24 (x + 1) A9 (up B9 w (en_lor (B9 w) (en_lshl 1 ((stp L n D q w x) - 64)))) (by omega) (by omega) (cG_hit hx.1 rfl (fun a b _ _ b0 b1 => bL_hi (by omega) a b (by omega)) hw.1 hG hH).1 (cG_hit hx.1 rfl (fun a b _ _ b0 b1 => bL_hi (by omega) a b (by omega)) hw.1 hG hH).2 (by omega)
              · show en_wp k_X1_findWays 59 [some (.inr (.inr (r_Machine, 0))), some (.inl q), some (.inl m), some (.inl w), some (.inl x), some (.inl (stp L n D q w x))] [] (srl σ [(r_Machine_reachLow, A9), (r_Machine_reachHigh, B9)]) _
                refine wp_run 4 (pc' := 65) (ls' := [some (.inr (.inr (r_Machine, 0))), some (.inl q), some (.inl m), some (.inl w), some (.inl x), some (.inl (stp L n D q w x))]) (st' := [.inl w, .inr (.inr (r_Machine_reachLow, 0)), .inl w, .inr (.inr (r_Machine_reachLow, 0))]) (σ' := srl σ [(r_Machine_reachLow, A9), (r_Machine_reachHigh, B9)]) rfl ?_
                refine wp_lald0 rfl rfl (by omega) ?_
                show en_wp k_X1_findWays 66 [some (.inr (.inr (r_Machine, 0))), some (.inl q), some (.inl m), some (.inl w), some (.inl x), some (.inl (stp L n D q w x))] [.inr (.inl (A9 w)), .inl w, .inr (.inr (r_Machine_reachLow, 0))] (srl σ [(r_Machine_reachLow, A9), (r_Machine_reachHigh, B9)]) _
                refine wp_run 4 (pc' := 71) (ls' := [some (.inr (.inr (r_Machine, 0))), some (.inl q), some (.inl m), some (.inl w), some (.inl x), some (.inl (stp L n D q w x))]) (st' := [.inr (.inl (en_lor (A9 w) (en_lshl 1 (stp L n D q w x)))), .inl w, .inr (.inr (r_Machine_reachLow, 0))]) (σ' := srl σ [(r_Machine_reachLow, A9), (r_Machine_reachHigh, B9)]) rfl ?_
                refine wp_last0 rfl rfl (by omega) (wp_wr (l2 := [(r_Machine_reachLow, (up A9 w (en_lor (A9 w) (en_lshl 1 (stp L n D q w x))))), (r_Machine_reachHigh, B9)]) rfl ?_)
                show en_wp k_X1_findWays 72 [some (.inr (.inr (r_Machine, 0))), some (.inl q), some (.inl m), some (.inl w), some (.inl x), some (.inl (stp L n D q w x))] [] (srl σ [(r_Machine_reachLow, (up A9 w (en_lor (A9 w) (en_lshl 1 (stp L n D q w x))))), (r_Machine_reachHigh, B9)]) _
                refine wp_run 3 (pc' := 24) (ls' := [some (.inr (.inr (r_Machine, 0))), some (.inl q), some (.inl m), some (.inl w), some (.inl (x + 1)), some (.inl (stp L n D q w x))]) (st' := []) (σ' := srl σ [(r_Machine_reachLow, (up A9 w (en_lor (A9 w) (en_lshl 1 (stp L n D q w x))))), (r_Machine_reachHigh, B9)]) rfl ?_
                refine wp_sub (l := [some (.inr (.inr (r_Machine, 0))), some (.inl q), some (.inl m), some (.inl w), some (.inl (x + 1)), none]) (And.intro rfl (And.intro rfl (And.intro rfl (And.intro rfl (And.intro rfl trivial))))) ?_
                exact ih_24 (x + 1) (up A9 w (en_lor (A9 w) (en_lshl 1 (stp L n D q w x)))) B9 (by omega) (by omega) (cG_hit hx.1 rfl (fun a b _ _ b0 b1 => bL_lo (by omega) a b (by omega)) hw.1 hG hH).1 (cG_hit hx.1 rfl (fun a b _ _ b0 b1 => bL_lo (by omega) a b (by omega)) hw.1 hG hH).2 (by omega)
      refine wp_run 2 (pc' := 4) (ls' := [some (.inr (.inr (r_Machine, 0))), some (.inl q), some (.inl m), some (.inl w), none, none]) (st' := [.inl m, .inl w]) (σ' := srl σ [(r_Machine_reachLow, A9), (r_Machine_reachHigh, B9)]) rfl ?_
      refine wp_ic_ge rfl (by omega) (by omega) (fun h_10 => ?_) (fun h_10 => ?_)
      · show en_wp k_X1_findWays 109 [some (.inr (.inr (r_Machine, 0))), some (.inl q), some (.inl m), some (.inl w), none, none] [] (srl σ [(r_Machine_reachLow, A9), (r_Machine_reachHigh, B9)]) _
        refine wp_run 2 (pc' := 111) (ls' := [some (.inr (.inr (r_Machine, 0))), some (.inl q), some (.inl m), some (.inl 0), none, none]) (st' := []) (σ' := srl σ [(r_Machine_reachLow, A9), (r_Machine_reachHigh, B9)]) rfl ?_
        exact L_111 _ 0 A9 B9 (by omega) (wG_0 hG (by omega)) (Nat.lt_succ_self _)
      · show en_wp k_X1_findWays 7 [some (.inr (.inr (r_Machine, 0))), some (.inl q), some (.inl m), some (.inl w), none, none] [] (srl σ [(r_Machine_reachLow, A9), (r_Machine_reachHigh, B9)]) _
        refine wp_run 4 (pc' := 13) (ls' := [some (.inr (.inr (r_Machine, 0))), some (.inl q), some (.inl m), some (.inl w), none, none]) (st' := [.inr (.inl 0), .inl w, .inr (.inr (r_Machine_reachLow, 0))]) (σ' := srl σ [(r_Machine_reachLow, A9), (r_Machine_reachHigh, B9)]) rfl ?_
        refine wp_last0 rfl rfl (by omega) (wp_wr (l2 := [(r_Machine_reachLow, (up A9 w 0)), (r_Machine_reachHigh, B9)]) rfl ?_)
        show en_wp k_X1_findWays 14 [some (.inr (.inr (r_Machine, 0))), some (.inl q), some (.inl m), some (.inl w), none, none] [] (srl σ [(r_Machine_reachLow, (up A9 w 0)), (r_Machine_reachHigh, B9)]) _
        refine wp_run 4 (pc' := 20) (ls' := [some (.inr (.inr (r_Machine, 0))), some (.inl q), some (.inl m), some (.inl w), none, none]) (st' := [.inr (.inl 0), .inl w, .inr (.inr (r_Machine_reachHigh, 0))]) (σ' := srl σ [(r_Machine_reachLow, (up A9 w 0)), (r_Machine_reachHigh, B9)]) rfl ?_
        refine wp_last0 rfl rfl (by omega) (wp_wr (l2 := [(r_Machine_reachLow, (up A9 w 0)), (r_Machine_reachHigh, (up B9 w 0))]) rfl ?_)
        show en_wp k_X1_findWays 21 [some (.inr (.inr (r_Machine, 0))), some (.inl q), some (.inl m), some (.inl w), none, none] [] (srl σ [(r_Machine_reachLow, (up A9 w 0)), (r_Machine_reachHigh, (up B9 w 0))]) _
        refine wp_run 2 (pc' := 24) (ls' := [some (.inr (.inr (r_Machine, 0))), some (.inl q), some (.inl m), some (.inl w), some (.inl 0), none]) (st' := []) (σ' := srl σ [(r_Machine_reachLow, (up A9 w 0)), (r_Machine_reachHigh, (up B9 w 0))]) rfl ?_
        exact L_24 _ 0 (up A9 w 0) (up B9 w 0) (by omega) (by omega) (cG_c hG (fun a b a0 a1 b0 b1 => by rw [bL_z, if_neg (by omega)])) (cG_new (fun b b0 b1 => by rw [bL_z, if_pos rfl])) (Nat.lt_succ_self _)
  refine wp_run 2 (pc' := 2) (ls' := [some (.inr (.inr (r_Machine, 0))), some (.inl q), some (.inl m), some (.inl 0), none, none]) (st' := []) (σ' := srl σ []) rfl ?_
  refine wp_mem (srl_eq (l' := [(r_Machine_reachLow, (σ r_Machine_reachLow)), (r_Machine_reachHigh, (σ r_Machine_reachHigh))]) trivial (And.intro rfl (And.intro rfl trivial))) ?_
  exact L_2 _ 0 (σ r_Machine_reachLow) (σ r_Machine_reachHigh) (by omega) (fun a b a0 a1 => by omega) (Nat.lt_succ_self _)
theorem ct_X1_waysBack (σ : en_m) (n : Int) (D : Int) (p : Int) (L : Int → Int) (q : Int) (w : Int) (hI : cS0 σ n D p) (hq : (1 ≤ q ∧ q ≤ D) ∧ (q = 1 ∨ q + 1 ≤ D)) (hw : 0 ≤ w ∧ w < sW n D q) (hgc : ∀ a b, 0 ≤ a → a < sW n D q → 0 ≤ b → b < sW n D q → bL ((σ r_Machine_reachLow)) ((σ r_Machine_reachHigh)) a b = gT L n D q a b) (g01 : R01 ((σ r_Nought0_leading))) (hLL : ∀ x, 0 ≤ x → x < sS n D (D + 1) → (σ r_Nought0_leading) x = L x) : en_fn z_X1_waysBack [.inr (.inr (r_Machine, 0)), .inl q, .inl w] σ (.inl (cw L n D q w (n).toNat)) := by
  show en_wp k_X1_waysBack 0 [some (.inr (.inr (r_Machine, 0))), some (.inl q), some (.inl w), none, none, none] [] (srl σ []) (fun r σ' => r = some (.inl (cw L n D q w (n).toNat)) ∧ σ' = σ)
  have hI2 := hI
  obtain ⟨hO, hn, hD, hp, hm, hst, hln⟩ := hI2
  obtain ⟨⟨hO1, hO2⟩, ⟨hO3, hO4⟩, hO5, hO6, hO7, hO8⟩ := id hO
  have hWq := sW_b (k := q) hO
  have h81 := sW_81 hO hq.2
  have L_5 : ∀ (N : Nat) (c : Int) (x : Int), (0 ≤ x ∧ x ≤ n) → (0 ≤ c ∧ c ≤ x) → (c = cw L n D q w x.toNat) → (n - x).toNat < N → en_wp k_X1_waysBack 5 [some (.inr (.inr (r_Machine, 0))), some (.inl q), some (.inl w), some (.inl c), some (.inl x), none] [] (srl σ []) (fun r σ' => r = some (.inl (cw L n D q w (n).toNat)) ∧ σ' = σ) := by
    intro N
    induction N with
    | zero => intro c x; intros; omega
    | succ N ih_5 =>
      intro c x hx hcb hc hN_5
      refine wp_run 3 (pc' := 11) (ls' := [some (.inr (.inr (r_Machine, 0))), some (.inl q), some (.inl w), some (.inl c), some (.inl x), none]) (st' := [.inr (.inr (r_Shape0, 0)), .inl x]) (σ' := srl σ []) rfl ?_
      refine wp_fnv (v := .inl n) rfl rfl rfl rfl (ct_X5_lettersTold_Shape0 σ n D p hI) ?_
      show en_wp k_X1_waysBack 14 [some (.inr (.inr (r_Machine, 0))), some (.inl q), some (.inl w), some (.inl c), some (.inl x), none] [.inl n, .inl x] (srl σ []) _
      refine wp_ic_ge rfl (by omega) (by omega) (fun h_1 => ?_) (fun h_1 => ?_)
      · show en_wp k_X1_waysBack 63 [some (.inr (.inr (r_Machine, 0))), some (.inl q), some (.inl w), some (.inl c), some (.inl x), none] [] (srl σ []) _
        refine wp_run 1 (pc' := 64) (ls' := [some (.inr (.inr (r_Machine, 0))), some (.inl q), some (.inl w), some (.inl c), some (.inl x), none]) (st' := [.inl c]) (σ' := srl σ []) rfl ?_
        exact wp_iret rfl ⟨(by rw [hc, show x = n by omega]), rfl⟩
      · show en_wp k_X1_waysBack 17 [some (.inr (.inr (r_Machine, 0))), some (.inl q), some (.inl w), some (.inl c), some (.inl x), none] [] (srl σ []) _
        refine wp_run 4 (pc' := 22) (ls' := [some (.inr (.inr (r_Machine, 0))), some (.inl q), some (.inl w), some (.inl c), some (.inl x), none]) (st' := [.inl x, .inl w, .inl q, .inr (.inr (r_Machine, 0))]) (σ' := srl σ []) rfl ?_
        refine wp_fnv (v := .inl (stp L n D q w x)) rfl rfl rfl rfl (ct_X1_step σ n D p L q w x hI (by omega) (by omega) (by omega) g01 hLL) ?_
        show en_wp k_X1_waysBack 25 [some (.inr (.inr (r_Machine, 0))), some (.inl q), some (.inl w), some (.inl c), some (.inl x), none] [.inl (stp L n D q w x)] (srl σ []) _
        have q_2 : -1 ≤ stp L n D q w x ∧ stp L n D q w x < sW n D q := stp_b _ (by omega)
        refine wp_run 4 (pc' := 31) (ls' := [some (.inr (.inr (r_Machine, 0))), some (.inl q), some (.inl w), some (.inl c), some (.inl x), some (.inl (stp L n D q w x))]) (st' := [.inl (-1), .inl (stp L n D q w x), .inl c]) (σ' := srl σ []) rfl ?_
        refine wp_ic_eq rfl (by omega) (by omega) (fun h_3 => ?_) (fun h_3 => ?_)
        · show en_wp k_X1_waysBack 54 [some (.inr (.inr (r_Machine, 0))), some (.inl q), some (.inl w), some (.inl c), some (.inl x), some (.inl (stp L n D q w x))] [.inl c] (srl σ []) _
          refine wp_run 5 (pc' := 5) (ls' := [some (.inr (.inr (r_Machine, 0))), some (.inl q), some (.inl w), some (.inl (c + 0)), some (.inl (x + 1)), some (.inl (stp L n D q w x))]) (st' := []) (σ' := srl σ []) rfl ?_
          refine wp_sub (l := [some (.inr (.inr (r_Machine, 0))), some (.inl q), some (.inl w), some (.inl (c + 0)), some (.inl (x + 1)), none]) (And.intro rfl (And.intro rfl (And.intro rfl (And.intro rfl (And.intro rfl trivial))))) ?_
          exact ih_5 (c + 0) (x + 1) (by omega) (by omega) (by rw [← cw_s hx.1 hc, cw_0 (.inl (by omega))]) (by omega)
        · show en_wp k_X1_waysBack 34 [some (.inr (.inr (r_Machine, 0))), some (.inl q), some (.inl w), some (.inl c), some (.inl x), some (.inl (stp L n D q w x))] [.inl c] (srl σ []) _
          refine wp_run 2 (pc' := 37) (ls' := [some (.inr (.inr (r_Machine, 0))), some (.inl q), some (.inl w), some (.inl c), some (.inl x), some (.inl (stp L n D q w x))]) (st' := [.inl w, .inl (stp L n D q w x), .inl c]) (σ' := srl σ []) rfl ?_
          refine wp_ic_eq rfl (by omega) (by omega) (fun h_4 => ?_) (fun h_4 => ?_)
          · show en_wp k_X1_waysBack 50 [some (.inr (.inr (r_Machine, 0))), some (.inl q), some (.inl w), some (.inl c), some (.inl x), some (.inl (stp L n D q w x))] [.inl c] (srl σ []) _
            refine wp_run 6 (pc' := 5) (ls' := [some (.inr (.inr (r_Machine, 0))), some (.inl q), some (.inl w), some (.inl (c + 1)), some (.inl (x + 1)), some (.inl (stp L n D q w x))]) (st' := []) (σ' := srl σ []) rfl ?_
            refine wp_sub (l := [some (.inr (.inr (r_Machine, 0))), some (.inl q), some (.inl w), some (.inl (c + 1)), some (.inl (x + 1)), none]) (And.intro rfl (And.intro rfl (And.intro rfl (And.intro rfl (And.intro rfl trivial))))) ?_
            exact ih_5 (c + 1) (x + 1) (by omega) (by omega) (by rw [← cw_s hx.1 hc, cw_1 (by omega) (by omega) (.inl (by omega))]) (by omega)
          · show en_wp k_X1_waysBack 40 [some (.inr (.inr (r_Machine, 0))), some (.inl q), some (.inl w), some (.inl c), some (.inl x), some (.inl (stp L n D q w x))] [.inl c] (srl σ []) _
            refine wp_run 3 (pc' := 44) (ls' := [some (.inr (.inr (r_Machine, 0))), some (.inl q), some (.inl w), some (.inl c), some (.inl x), some (.inl (stp L n D q w x))]) (st' := [.inl w, .inl (stp L n D q w x), .inr (.inr (r_Machine, 0)), .inl c]) (σ' := srl σ []) rfl ?_
            refine wp_fnv (v := .inl (bI (bL ((σ r_Machine_reachLow)) ((σ r_Machine_reachHigh)) (stp L n D q w x) w = true))) rfl rfl rfl rfl (ct_X1_comesTo σ (stp L n D q w x) w (by omega) (by omega)) ?_
            show en_wp k_X1_waysBack 47 [some (.inr (.inr (r_Machine, 0))), some (.inl q), some (.inl w), some (.inl c), some (.inl x), some (.inl (stp L n D q w x))] [.inl (bI (bL ((σ r_Machine_reachLow)) ((σ r_Machine_reachHigh)) (stp L n D q w x) w = true)), .inl c] (srl σ []) _
            refine wp_if_eqb rfl (fun h_5 => ?_) (fun h_5 => ?_)
            · have hk9 : ¬ gT L n D q (stp L n D q w x) w = true := fun g => h_5 ((hgc _ _ (by omega) (by omega) hw.1 hw.2).trans g)
              show en_wp k_X1_waysBack 54 [some (.inr (.inr (r_Machine, 0))), some (.inl q), some (.inl w), some (.inl c), some (.inl x), some (.inl (stp L n D q w x))] [.inl c] (srl σ []) _
              refine wp_run 5 (pc' := 5) (ls' := [some (.inr (.inr (r_Machine, 0))), some (.inl q), some (.inl w), some (.inl (c + 0)), some (.inl (x + 1)), some (.inl (stp L n D q w x))]) (st' := []) (σ' := srl σ []) rfl ?_
              refine wp_sub (l := [some (.inr (.inr (r_Machine, 0))), some (.inl q), some (.inl w), some (.inl (c + 0)), some (.inl (x + 1)), none]) (And.intro rfl (And.intro rfl (And.intro rfl (And.intro rfl (And.intro rfl trivial))))) ?_
              exact ih_5 (c + 0) (x + 1) (by omega) (by omega) (by rw [← cw_s hx.1 hc, cw_0 (.inr hk9)]) (by omega)
            · have hk9 : gT L n D q (stp L n D q w x) w = true := (hgc _ _ (by omega) (by omega) hw.1 hw.2).symm.trans h_5
              show en_wp k_X1_waysBack 50 [some (.inr (.inr (r_Machine, 0))), some (.inl q), some (.inl w), some (.inl c), some (.inl x), some (.inl (stp L n D q w x))] [.inl c] (srl σ []) _
              refine wp_run 6 (pc' := 5) (ls' := [some (.inr (.inr (r_Machine, 0))), some (.inl q), some (.inl w), some (.inl (c + 1)), some (.inl (x + 1)), some (.inl (stp L n D q w x))]) (st' := []) (σ' := srl σ []) rfl ?_
              refine wp_sub (l := [some (.inr (.inr (r_Machine, 0))), some (.inl q), some (.inl w), some (.inl (c + 1)), some (.inl (x + 1)), none]) (And.intro rfl (And.intro rfl (And.intro rfl (And.intro rfl (And.intro rfl trivial))))) ?_
              exact ih_5 (c + 1) (x + 1) (by omega) (by omega) (by rw [← cw_s hx.1 hc, cw_1 (by omega) (by omega) (.inr hk9)]) (by omega)
  refine wp_run 4 (pc' := 5) (ls' := [some (.inr (.inr (r_Machine, 0))), some (.inl q), some (.inl w), some (.inl 0), some (.inl 0), none]) (st' := []) (σ' := srl σ []) rfl ?_
  exact L_5 _ 0 0 (by omega) (by omega) rfl (Nat.lt_succ_self _)
theorem ct_X1_circlesFrom (σ : en_m) (n : Int) (D : Int) (p : Int) (L : Int → Int) (q : Int) (w : Int) (m : Int) (hI : cS0 σ n D p) (hq : (1 ≤ q ∧ q ≤ D) ∧ (q = 1 ∨ q + 1 ≤ D)) (hm : m = sW n D q) (hw : 0 ≤ w ∧ w < sW n D q) (hgc : ∀ a b, 0 ≤ a → a < sW n D q → 0 ≤ b → b < sW n D q → bL ((σ r_Machine_reachLow)) ((σ r_Machine_reachHigh)) a b = gT L n D q a b) (hCb : ∀ a, 0 ≤ a → a < sW n D q → 0 ≤ (σ r_Machine_circles) a ∧ (σ r_Machine_circles) a ≤ 81) : en_ct z_X1_circlesFrom [.inr (.inr (r_Machine, 0)), .inl w, .inl m] σ (fun r σ' => ∃ (rr : Int), r = some (.inl rr) ∧ σ' = srl σ [] ∧ (cfR (gT L n D q) (sW n D q).toNat ((σ r_Machine_circles)) w rr)) := by
  show en_wp k_X1_circlesFrom 0 [some (.inr (.inr (r_Machine, 0))), some (.inl w), some (.inl m), none, none] [] (srl σ []) (fun r σ' => ∃ (rr : Int), r = some (.inl rr) ∧ σ' = srl σ [] ∧ (cfR (gT L n D q) (sW n D q).toNat ((σ r_Machine_circles)) w rr))
  have hI2 := hI
  obtain ⟨hO, hn, hD, hp, hm, hst, hln⟩ := hI2
  obtain ⟨⟨hO1, hO2⟩, ⟨hO3, hO4⟩, hO5, hO6, hO7, hO8⟩ := id hO
  have hWq := sW_b (k := q) hO
  have h81 := sW_81 hO hq.2
  have L_10 : ∀ (N : Nat) (M : Int) (v : Int), (0 ≤ v ∧ v ≤ sW n D q) → (0 ≤ M ∧ M ≤ 82) → (cfI (gT L n D q) (sW n D q).toNat (σ r_Machine_circles) w M v) → (sW n D q - v).toNat < N → en_wp k_X1_circlesFrom 10 [some (.inr (.inr (r_Machine, 0))), some (.inl w), some (.inl m), some (.inl M), some (.inl v)] [] (srl σ []) (fun r σ' => ∃ (rr : Int), r = some (.inl rr) ∧ σ' = srl σ [] ∧ (cfR (gT L n D q) (sW n D q).toNat ((σ r_Machine_circles)) w rr)) := by
    intro N
    induction N with
    | zero => intro M v; intros; omega
    | succ N ih_10 =>
      intro M v hv hMb hI9 hN_10
      refine wp_run 2 (pc' := 13) (ls' := [some (.inr (.inr (r_Machine, 0))), some (.inl w), some (.inl m), some (.inl M), some (.inl v)]) (st' := [.inl m, .inl v]) (σ' := srl σ []) rfl ?_
      refine wp_ic_ge rfl (by omega) (by omega) (fun h_1 => ?_) (fun h_1 => ?_)
      · show en_wp k_X1_circlesFrom 67 [some (.inr (.inr (r_Machine, 0))), some (.inl w), some (.inl m), some (.inl M), some (.inl v)] [] (srl σ []) _
        refine wp_run 1 (pc' := 68) (ls' := [some (.inr (.inr (r_Machine, 0))), some (.inl w), some (.inl m), some (.inl M), some (.inl v)]) (st' := [.inl M]) (σ' := srl σ []) rfl ?_
        exact wp_iret rfl ⟨M, rfl, srl_eq (l' := []) trivial trivial, (cf_fin hI9 (by omega))⟩
      · show en_wp k_X1_circlesFrom 16 [some (.inr (.inr (r_Machine, 0))), some (.inl w), some (.inl m), some (.inl M), some (.inl v)] [] (srl σ []) _
        refine wp_run 1 (pc' := 17) (ls' := [some (.inr (.inr (r_Machine, 0))), some (.inl w), some (.inl m), some (.inl M), some (.inl v)]) (st' := [.inl M]) (σ' := srl σ []) rfl ?_
        refine wp_if_le rfl (by omega) (fun h_2 => ?_) (fun h_2 => ?_)
        · show en_wp k_X1_circlesFrom 67 [some (.inr (.inr (r_Machine, 0))), some (.inl w), some (.inl m), some (.inl M), some (.inl v)] [] (srl σ []) _
          refine wp_run 1 (pc' := 68) (ls' := [some (.inr (.inr (r_Machine, 0))), some (.inl w), some (.inl m), some (.inl M), some (.inl v)]) (st' := [.inl M]) (σ' := srl σ []) rfl ?_
          exact wp_iret rfl ⟨M, rfl, srl_eq (l' := []) trivial trivial, (cf_fin hI9 (by omega))⟩
        · show en_wp k_X1_circlesFrom 20 [some (.inr (.inr (r_Machine, 0))), some (.inl w), some (.inl m), some (.inl M), some (.inl v)] [] (srl σ []) _
          refine wp_run 3 (pc' := 26) (ls' := [some (.inr (.inr (r_Machine, 0))), some (.inl w), some (.inl m), some (.inl M), some (.inl v)]) (st' := [.inl v, .inr (.inr (r_Machine_circles, 0))]) (σ' := srl σ []) rfl ?_
          have hcv := hCb v hv.1 (by omega)
          refine wp_iald0 rfl rfl (by omega) ?_
          show en_wp k_X1_circlesFrom 27 [some (.inr (.inr (r_Machine, 0))), some (.inl w), some (.inl m), some (.inl M), some (.inl v)] [.inl (σ r_Machine_circles v)] (srl σ []) _
          refine wp_run 1 (pc' := 28) (ls' := [some (.inr (.inr (r_Machine, 0))), some (.inl w), some (.inl m), some (.inl M), some (.inl v)]) (st' := [.inl M, .inl (σ r_Machine_circles v)]) (σ' := srl σ []) rfl ?_
          refine wp_ic_lt rfl (by omega) (by omega) (fun h_3 => ?_) (fun h_3 => ?_)
          · show en_wp k_X1_circlesFrom 61 [some (.inr (.inr (r_Machine, 0))), some (.inl w), some (.inl m), some (.inl M), some (.inl v)] [] (srl σ []) _
            refine wp_run 2 (pc' := 10) (ls' := [some (.inr (.inr (r_Machine, 0))), some (.inl w), some (.inl m), some (.inl M), some (.inl (v + 1))]) (st' := []) (σ' := srl σ []) rfl ?_
            exact ih_10 M (v + 1) (by omega) (by omega) (cf_no hI9 (.inl (by omega))) (by omega)
          · show en_wp k_X1_circlesFrom 31 [some (.inr (.inr (r_Machine, 0))), some (.inl w), some (.inl m), some (.inl M), some (.inl v)] [] (srl σ []) _
            refine wp_run 3 (pc' := 35) (ls' := [some (.inr (.inr (r_Machine, 0))), some (.inl w), some (.inl m), some (.inl M), some (.inl v)]) (st' := [.inl v, .inl w, .inr (.inr (r_Machine, 0))]) (σ' := srl σ []) rfl ?_
            refine wp_fnv (v := .inl (bI (bL ((σ r_Machine_reachLow)) ((σ r_Machine_reachHigh)) w v = true))) rfl rfl rfl rfl (ct_X1_comesTo σ w v (by omega) (by omega)) ?_
            show en_wp k_X1_circlesFrom 38 [some (.inr (.inr (r_Machine, 0))), some (.inl w), some (.inl m), some (.inl M), some (.inl v)] [.inl (bI (bL ((σ r_Machine_reachLow)) ((σ r_Machine_reachHigh)) w v = true))] (srl σ []) _
            refine wp_if_eqb rfl (fun h_4 => ?_) (fun h_4 => ?_)
            · have hk9 : ¬ gT L n D q w v = true := fun g => h_4 ((hgc _ _ hw.1 hw.2 hv.1 (by omega)).trans g)
              show en_wp k_X1_circlesFrom 61 [some (.inr (.inr (r_Machine, 0))), some (.inl w), some (.inl m), some (.inl M), some (.inl v)] [] (srl σ []) _
              refine wp_run 2 (pc' := 10) (ls' := [some (.inr (.inr (r_Machine, 0))), some (.inl w), some (.inl m), some (.inl M), some (.inl (v + 1))]) (st' := []) (σ' := srl σ []) rfl ?_
              exact ih_10 M (v + 1) (by omega) (by omega) (cf_no hI9 (.inr (.inl hk9))) (by omega)
            · have hk8 : gT L n D q w v = true := (hgc _ _ hw.1 hw.2 hv.1 (by omega)).symm.trans h_4
              show en_wp k_X1_circlesFrom 41 [some (.inr (.inr (r_Machine, 0))), some (.inl w), some (.inl m), some (.inl M), some (.inl v)] [] (srl σ []) _
              refine wp_run 3 (pc' := 45) (ls' := [some (.inr (.inr (r_Machine, 0))), some (.inl w), some (.inl m), some (.inl M), some (.inl v)]) (st' := [.inl w, .inl v, .inr (.inr (r_Machine, 0))]) (σ' := srl σ []) rfl ?_
              refine wp_fnv (v := .inl (bI (bL ((σ r_Machine_reachLow)) ((σ r_Machine_reachHigh)) v w = true))) rfl rfl rfl rfl (ct_X1_comesTo σ v w (by omega) (by omega)) ?_
              show en_wp k_X1_circlesFrom 48 [some (.inr (.inr (r_Machine, 0))), some (.inl w), some (.inl m), some (.inl M), some (.inl v)] [.inl (bI (bL ((σ r_Machine_reachLow)) ((σ r_Machine_reachHigh)) v w = true))] (srl σ []) _
              refine wp_if_neb rfl (fun h_5 => ?_) (fun h_5 => ?_)
              · have hk9 : gT L n D q v w = true := (hgc _ _ hv.1 (by omega) hw.1 hw.2).symm.trans h_5
                show en_wp k_X1_circlesFrom 61 [some (.inr (.inr (r_Machine, 0))), some (.inl w), some (.inl m), some (.inl M), some (.inl v)] [] (srl σ []) _
                refine wp_run 2 (pc' := 10) (ls' := [some (.inr (.inr (r_Machine, 0))), some (.inl w), some (.inl m), some (.inl M), some (.inl (v + 1))]) (st' := []) (σ' := srl σ []) rfl ?_
                exact ih_10 M (v + 1) (by omega) (by omega) (cf_no hI9 (.inr (.inr hk9))) (by omega)
              · have hk9 : ¬ gT L n D q v w = true := fun g => h_5 ((hgc _ _ hv.1 (by omega) hw.1 hw.2).trans g)
                show en_wp k_X1_circlesFrom 51 [some (.inr (.inr (r_Machine, 0))), some (.inl w), some (.inl m), some (.inl M), some (.inl v)] [] (srl σ []) _
                refine wp_run 3 (pc' := 57) (ls' := [some (.inr (.inr (r_Machine, 0))), some (.inl w), some (.inl m), some (.inl M), some (.inl v)]) (st' := [.inl v, .inr (.inr (r_Machine_circles, 0))]) (σ' := srl σ []) rfl ?_
                refine wp_iald0 rfl rfl (by omega) ?_
                show en_wp k_X1_circlesFrom 58 [some (.inr (.inr (r_Machine, 0))), some (.inl w), some (.inl m), some (.inl M), some (.inl v)] [.inl (σ r_Machine_circles v)] (srl σ []) _
                refine wp_run 5 (pc' := 10) (ls' := [some (.inr (.inr (r_Machine, 0))), some (.inl w), some (.inl m), some (.inl ((σ r_Machine_circles v) + 1)), some (.inl (v + 1))]) (st' := []) (σ' := srl σ []) rfl ?_
                exact ih_10 ((σ r_Machine_circles v) + 1) (v + 1) (by omega) (by omega) (cf_yes hI9 (by omega) (by omega) hk8 hk9 (by omega)) (by omega)
  refine wp_run 3 (pc' := 5) (ls' := [some (.inr (.inr (r_Machine, 0))), some (.inl w), some (.inl m), none, none]) (st' := [.inl w, .inr (.inr (r_Machine_circles, 0))]) (σ' := srl σ []) rfl ?_
  have hcw := hCb w hw.1 hw.2
  refine wp_iald0 rfl rfl (by omega) ?_
  show en_wp k_X1_circlesFrom 6 [some (.inr (.inr (r_Machine, 0))), some (.inl w), some (.inl m), none, none] [.inl (σ r_Machine_circles w)] (srl σ []) _
  refine wp_run 3 (pc' := 10) (ls' := [some (.inr (.inr (r_Machine, 0))), some (.inl w), some (.inl m), some (.inl (σ r_Machine_circles w)), some (.inl 0)]) (st' := []) (σ' := srl σ []) rfl ?_
  exact L_10 _ (σ r_Machine_circles w) 0 (by omega) (by omega) (cf_0 _ _ _ _) (Nat.lt_succ_self _)
theorem ct_X1_mostCircles (σ : en_m) (n : Int) (D : Int) (p : Int) (L : Int → Int) (q : Int) (m : Int) (hI : cS0 σ n D p) (hq : (1 ≤ q ∧ q ≤ D) ∧ (q = 1 ∨ q + 1 ≤ D)) (hm : m = sW n D q) (hgc : ∀ a b, 0 ≤ a → a < sW n D q → 0 ≤ b → b < sW n D q → bL ((σ r_Machine_reachLow)) ((σ r_Machine_reachHigh)) a b = gT L n D q a b) (hC0 : ∀ w, 0 ≤ w → w < sW n D q → (σ r_Machine_circles) w = bI (gT L n D q w w = true)) : en_ct z_X1_mostCircles [.inr (.inr (r_Machine, 0)), .inl m] σ (fun r σ' => ∃ (f_Machine_circles : Int → Int), ∃ (rr : Int), r = some (.inl rr) ∧ σ' = srl σ [(r_Machine_circles, f_Machine_circles)] ∧ (rr = mx (hT (gT L n D q) (sW n D q).toNat) (sW n D q).toNat)) := by
  show en_wp k_X1_mostCircles 0 [some (.inr (.inr (r_Machine, 0))), some (.inl m), none, none, none, none, none] [] (srl σ []) (fun r σ' => ∃ (f_Machine_circles : Int → Int), ∃ (rr : Int), r = some (.inl rr) ∧ σ' = srl σ [(r_Machine_circles, f_Machine_circles)] ∧ (rr = mx (hT (gT L n D q) (sW n D q).toNat) (sW n D q).toNat))
  have hI2 := hI
  obtain ⟨hO, hn, hD, hp, hm, hst, hln⟩ := hI2
  obtain ⟨⟨hO1, hO2⟩, ⟨hO3, hO4⟩, hO5, hO6, hO7, hO8⟩ := id hO
  have hWq := sW_b (k := q) hO
  have h81 := sW_81 hO hq.2
  have hTr : trT (gT L n D q) (((sW n D q).toNat : Nat) : Int) := by have h9 := gT_tr L n D q; rw [show (((sW n D q).toNat : Nat) : Int) = sW n D q by omega]; exact h9
  have hmxb : mx (hT (gT L n D q) (sW n D q).toNat) (sW n D q).toNat ≤ 81 := mx_le (by decide) _ (fun v a b => by have := h_b hTr a b; omega)
  have L_7 : ∀ (N : Nat) (t : Int) (M : Int) (g : Int) (C : Int → Int), (0 ≤ t ∧ t ≤ m + 1) → (g = 0 ∨ g = 1) → (0 ≤ M ∧ M ≤ 81) → (crI (gT L n D q) (sW n D q).toNat C t M g) → (m + 1 - t).toNat < N → en_wp k_X1_mostCircles 7 [some (.inr (.inr (r_Machine, 0))), some (.inl m), some (.inl M), some (.inl g), some (.inl t), none, none] [] (srl σ [(r_Machine_circles, C)]) (fun r σ' => ∃ (f_Machine_circles : Int → Int), ∃ (rr : Int), r = some (.inl rr) ∧ σ' = srl σ [(r_Machine_circles, f_Machine_circles)] ∧ (rr = mx (hT (gT L n D q) (sW n D q).toNat) (sW n D q).toNat)) := by
    intro N
    induction N with
    | zero => intro t M g C; intros; omega
    | succ N ih_7 =>
      intro t M g C ht hg hM hI9 hN_7
      have L_22 : ∀ (N : Nat) (w : Int) (M : Int) (g : Int) (CX : Int → Int), (t ≤ m) → (g = 0 ∨ g = 1) → (0 ≤ w ∧ w ≤ sW n D q) → (0 ≤ M ∧ M ≤ 81) → (crJ (gT L n D q) (sW n D q).toNat CX t M g w) → (sW n D q - w).toNat < N → en_wp k_X1_mostCircles 22 [some (.inr (.inr (r_Machine, 0))), some (.inl m), some (.inl M), some (.inl g), some (.inl t), some (.inl w), none] [] (srl σ [(r_Machine_circles, CX)]) (fun r σ' => ∃ (f_Machine_circles : Int → Int), ∃ (rr : Int), r = some (.inl rr) ∧ σ' = srl σ [(r_Machine_circles, f_Machine_circles)] ∧ (rr = mx (hT (gT L n D q) (sW n D q).toNat) (sW n D q).toNat)) := by
        intro N
        induction N with
        | zero => intro w M g CX; intros; omega
        | succ N ih_22 =>
          intro w M g CX htm hg hw hM hJ hN_22
          have hCb := cr_b hTr hJ
          refine wp_run 2 (pc' := 25) (ls' := [some (.inr (.inr (r_Machine, 0))), some (.inl m), some (.inl M), some (.inl g), some (.inl t), some (.inl w), none]) (st' := [.inl m, .inl w]) (σ' := srl σ [(r_Machine_circles, CX)]) rfl ?_
          refine wp_ic_ge rfl (by omega) (by omega) (fun h_1 => ?_) (fun h_1 => ?_)
          · show en_wp k_X1_mostCircles 81 [some (.inr (.inr (r_Machine, 0))), some (.inl m), some (.inl M), some (.inl g), some (.inl t), some (.inl w), none] [] (srl σ [(r_Machine_circles, CX)]) _
            refine wp_run 2 (pc' := 7) (ls' := [some (.inr (.inr (r_Machine, 0))), some (.inl m), some (.inl M), some (.inl g), some (.inl (t + 1)), some (.inl w), none]) (st' := []) (σ' := srl σ [(r_Machine_circles, CX)]) rfl ?_
            refine wp_sub (l := [some (.inr (.inr (r_Machine, 0))), some (.inl m), some (.inl M), some (.inl g), some (.inl (t + 1)), none, none]) (And.intro rfl (And.intro rfl (And.intro rfl (And.intro rfl (And.intro rfl trivial))))) ?_
            exact ih_7 (t + 1) M g CX (by omega) (by omega) (by omega) (cr_round hTr ht.1 hJ (by omega)) (by omega)
          · show en_wp k_X1_mostCircles 28 [some (.inr (.inr (r_Machine, 0))), some (.inl m), some (.inl M), some (.inl g), some (.inl t), some (.inl w), none] [] (srl σ [(r_Machine_circles, CX)]) _
            refine wp_run 3 (pc' := 32) (ls' := [some (.inr (.inr (r_Machine, 0))), some (.inl m), some (.inl M), some (.inl g), some (.inl t), some (.inl w), none]) (st' := [.inl m, .inl w, .inr (.inr (r_Machine, 0))]) (σ' := srl σ [(r_Machine_circles, CX)]) rfl ?_
            refine wp_callv rfl rfl rfl rfl (ct_X1_circlesFrom (srl σ [(r_Machine_circles, CX)]) n D p L q w m hI (by omega) (by omega) (by omega) hgc (fun a a0 a1 => by have := hCb a a0 (by omega); show 0 ≤ CX a ∧ CX a ≤ 81; omega)) ?_
            rintro _ _ ⟨r_2, rfl, rfl, p_3⟩
            have p_3 : cfR (gT L n D q) (sW n D q).toNat (CX) w r_2 := p_3
            show en_wp k_X1_mostCircles 35 [some (.inr (.inr (r_Machine, 0))), some (.inl m), some (.inl M), some (.inl g), some (.inl t), some (.inl w), none] [.inl r_2] (srl σ [(r_Machine_circles, CX)]) _
            have kf := p_3
            have kfb := cfR_b kf (by omega) hCb
            refine wp_run 2 (pc' := 38) (ls' := [some (.inr (.inr (r_Machine, 0))), some (.inl m), some (.inl M), some (.inl g), some (.inl t), some (.inl w), some (.inl r_2)]) (st' := [.inl g]) (σ' := srl σ [(r_Machine_circles, CX)]) rfl ?_
            refine wp_if_ne rfl (by omega) (fun h_4 => ?_) (fun h_4 => ?_)
            · show en_wp k_X1_mostCircles 53 [some (.inr (.inr (r_Machine, 0))), some (.inl m), some (.inl M), some (.inl g), some (.inl t), some (.inl w), some (.inl r_2)] [] (srl σ [(r_Machine_circles, CX)]) _
              refine wp_run 7 (pc' := 67) (ls' := [some (.inr (.inr (r_Machine, 0))), some (.inl m), some (.inl M), some (.inl 1), some (.inl t), some (.inl w), some (.inl r_2)]) (st' := [.inl r_2, .inl w, .inr (.inr (r_Machine_circles, 0))]) (σ' := srl σ [(r_Machine_circles, CX)]) rfl ?_
              refine wp_iast0 rfl rfl (by omega) (wp_wr (l2 := [(r_Machine_circles, (up CX w r_2))]) rfl ?_)
              show en_wp k_X1_mostCircles 68 [some (.inr (.inr (r_Machine, 0))), some (.inl m), some (.inl M), some (.inl 1), some (.inl t), some (.inl w), some (.inl r_2)] [] (srl σ [(r_Machine_circles, (up CX w r_2))]) _
              refine wp_run 2 (pc' := 71) (ls' := [some (.inr (.inr (r_Machine, 0))), some (.inl m), some (.inl M), some (.inl 1), some (.inl t), some (.inl w), some (.inl r_2)]) (st' := [.inl r_2, .inl M]) (σ' := srl σ [(r_Machine_circles, (up CX w r_2))]) rfl ?_
              refine wp_max rfl rfl (by omega) (by omega) ?_
              show en_wp k_X1_mostCircles 74 [some (.inr (.inr (r_Machine, 0))), some (.inl m), some (.inl M), some (.inl 1), some (.inl t), some (.inl w), some (.inl r_2)] [.inl (max M r_2)] (srl σ [(r_Machine_circles, (up CX w r_2))]) _
              refine wp_run 3 (pc' := 22) (ls' := [some (.inr (.inr (r_Machine, 0))), some (.inl m), some (.inl (max M r_2)), some (.inl 1), some (.inl t), some (.inl (w + 1)), some (.inl r_2)]) (st' := []) (σ' := srl σ [(r_Machine_circles, (up CX w r_2))]) rfl ?_
              refine wp_sub (l := [some (.inr (.inr (r_Machine, 0))), some (.inl m), some (.inl (max M r_2)), some (.inl 1), some (.inl t), some (.inl (w + 1)), none]) (And.intro rfl (And.intro rfl (And.intro rfl (And.intro rfl (And.intro rfl (And.intro rfl trivial)))))) ?_
              exact ih_22 (w + 1) (max M r_2) 1 (up CX w r_2) (by omega) (by omega) (by omega) (by have h9 := (cr_step hTr hJ (by omega) kf (g' := 1) (fun e => by omega)).2.1; omega) (cr_step hTr hJ (by omega) kf (fun e => by omega)) (by omega)
            · show en_wp k_X1_mostCircles 41 [some (.inr (.inr (r_Machine, 0))), some (.inl m), some (.inl M), some (.inl g), some (.inl t), some (.inl w), some (.inl r_2)] [] (srl σ [(r_Machine_circles, CX)]) _
              refine wp_run 4 (pc' := 49) (ls' := [some (.inr (.inr (r_Machine, 0))), some (.inl m), some (.inl M), some (.inl g), some (.inl t), some (.inl w), some (.inl r_2)]) (st' := [.inl w, .inr (.inr (r_Machine_circles, 0)), .inl r_2]) (σ' := srl σ [(r_Machine_circles, CX)]) rfl ?_
              have hcw := hCb w hw.1 (by omega)
              refine wp_iald0 rfl rfl (by omega) ?_
              show en_wp k_X1_mostCircles 50 [some (.inr (.inr (r_Machine, 0))), some (.inl m), some (.inl M), some (.inl g), some (.inl t), some (.inl w), some (.inl r_2)] [.inl (CX w), .inl r_2] (srl σ [(r_Machine_circles, CX)]) _
              refine wp_ic_le rfl (by omega) (by omega) (fun h_5 => ?_) (fun h_5 => ?_)
              · show en_wp k_X1_mostCircles 57 [some (.inr (.inr (r_Machine, 0))), some (.inl m), some (.inl M), some (.inl g), some (.inl t), some (.inl w), some (.inl r_2)] [] (srl σ [(r_Machine_circles, CX)]) _
                refine wp_run 6 (pc' := 67) (ls' := [some (.inr (.inr (r_Machine, 0))), some (.inl m), some (.inl M), some (.inl 0), some (.inl t), some (.inl w), some (.inl r_2)]) (st' := [.inl r_2, .inl w, .inr (.inr (r_Machine_circles, 0))]) (σ' := srl σ [(r_Machine_circles, CX)]) rfl ?_
                refine wp_iast0 rfl rfl (by omega) (wp_wr (l2 := [(r_Machine_circles, (up CX w r_2))]) rfl ?_)
                show en_wp k_X1_mostCircles 68 [some (.inr (.inr (r_Machine, 0))), some (.inl m), some (.inl M), some (.inl 0), some (.inl t), some (.inl w), some (.inl r_2)] [] (srl σ [(r_Machine_circles, (up CX w r_2))]) _
                refine wp_run 2 (pc' := 71) (ls' := [some (.inr (.inr (r_Machine, 0))), some (.inl m), some (.inl M), some (.inl 0), some (.inl t), some (.inl w), some (.inl r_2)]) (st' := [.inl r_2, .inl M]) (σ' := srl σ [(r_Machine_circles, (up CX w r_2))]) rfl ?_
                refine wp_max rfl rfl (by omega) (by omega) ?_
                show en_wp k_X1_mostCircles 74 [some (.inr (.inr (r_Machine, 0))), some (.inl m), some (.inl M), some (.inl 0), some (.inl t), some (.inl w), some (.inl r_2)] [.inl (max M r_2)] (srl σ [(r_Machine_circles, (up CX w r_2))]) _
                refine wp_run 3 (pc' := 22) (ls' := [some (.inr (.inr (r_Machine, 0))), some (.inl m), some (.inl (max M r_2)), some (.inl 0), some (.inl t), some (.inl (w + 1)), some (.inl r_2)]) (st' := []) (σ' := srl σ [(r_Machine_circles, (up CX w r_2))]) rfl ?_
                refine wp_sub (l := [some (.inr (.inr (r_Machine, 0))), some (.inl m), some (.inl (max M r_2)), some (.inl 0), some (.inl t), some (.inl (w + 1)), none]) (And.intro rfl (And.intro rfl (And.intro rfl (And.intro rfl (And.intro rfl (And.intro rfl trivial)))))) ?_
                exact ih_22 (w + 1) (max M r_2) 0 (up CX w r_2) (by omega) (by omega) (by omega) (by have h9 := (cr_step hTr hJ (by omega) kf (g' := 1) (fun e => by omega)).2.1; omega) (cr_step hTr hJ (by omega) kf (fun e => ⟨by omega, by omega⟩)) (by omega)
              · show en_wp k_X1_mostCircles 53 [some (.inr (.inr (r_Machine, 0))), some (.inl m), some (.inl M), some (.inl g), some (.inl t), some (.inl w), some (.inl r_2)] [] (srl σ [(r_Machine_circles, CX)]) _
                refine wp_run 7 (pc' := 67) (ls' := [some (.inr (.inr (r_Machine, 0))), some (.inl m), some (.inl M), some (.inl 1), some (.inl t), some (.inl w), some (.inl r_2)]) (st' := [.inl r_2, .inl w, .inr (.inr (r_Machine_circles, 0))]) (σ' := srl σ [(r_Machine_circles, CX)]) rfl ?_
                refine wp_iast0 rfl rfl (by omega) (wp_wr (l2 := [(r_Machine_circles, (up CX w r_2))]) rfl ?_)
                show en_wp k_X1_mostCircles 68 [some (.inr (.inr (r_Machine, 0))), some (.inl m), some (.inl M), some (.inl 1), some (.inl t), some (.inl w), some (.inl r_2)] [] (srl σ [(r_Machine_circles, (up CX w r_2))]) _
                refine wp_run 2 (pc' := 71) (ls' := [some (.inr (.inr (r_Machine, 0))), some (.inl m), some (.inl M), some (.inl 1), some (.inl t), some (.inl w), some (.inl r_2)]) (st' := [.inl r_2, .inl M]) (σ' := srl σ [(r_Machine_circles, (up CX w r_2))]) rfl ?_
                refine wp_max rfl rfl (by omega) (by omega) ?_
                show en_wp k_X1_mostCircles 74 [some (.inr (.inr (r_Machine, 0))), some (.inl m), some (.inl M), some (.inl 1), some (.inl t), some (.inl w), some (.inl r_2)] [.inl (max M r_2)] (srl σ [(r_Machine_circles, (up CX w r_2))]) _
                refine wp_run 3 (pc' := 22) (ls' := [some (.inr (.inr (r_Machine, 0))), some (.inl m), some (.inl (max M r_2)), some (.inl 1), some (.inl t), some (.inl (w + 1)), some (.inl r_2)]) (st' := []) (σ' := srl σ [(r_Machine_circles, (up CX w r_2))]) rfl ?_
                refine wp_sub (l := [some (.inr (.inr (r_Machine, 0))), some (.inl m), some (.inl (max M r_2)), some (.inl 1), some (.inl t), some (.inl (w + 1)), none]) (And.intro rfl (And.intro rfl (And.intro rfl (And.intro rfl (And.intro rfl (And.intro rfl trivial)))))) ?_
                exact ih_22 (w + 1) (max M r_2) 1 (up CX w r_2) (by omega) (by omega) (by omega) (by have h9 := (cr_step hTr hJ (by omega) kf (g' := 1) (fun e => by omega)).2.1; omega) (cr_step hTr hJ (by omega) kf (fun e => by omega)) (by omega)
      refine wp_run 2 (pc' := 10) (ls' := [some (.inr (.inr (r_Machine, 0))), some (.inl m), some (.inl M), some (.inl g), some (.inl t), none, none]) (st' := [.inl m, .inl t]) (σ' := srl σ [(r_Machine_circles, C)]) rfl ?_
      refine wp_ic_gt rfl (by omega) (by omega) (fun h_6 => ?_) (fun h_6 => ?_)
      · show en_wp k_X1_mostCircles 87 [some (.inr (.inr (r_Machine, 0))), some (.inl m), some (.inl M), some (.inl g), some (.inl t), none, none] [] (srl σ [(r_Machine_circles, C)]) _
        refine wp_run 1 (pc' := 88) (ls' := [some (.inr (.inr (r_Machine, 0))), some (.inl m), some (.inl M), some (.inl g), some (.inl t), none, none]) (st' := [.inl M]) (σ' := srl σ [(r_Machine_circles, C)]) rfl ?_
        exact wp_iret rfl ⟨C, M, rfl, srl_eq (l' := [(r_Machine_circles, C)]) (And.intro rfl trivial) (And.intro rfl trivial), (cr_fin hTr hI9 ht.1 (by omega))⟩
      · show en_wp k_X1_mostCircles 13 [some (.inr (.inr (r_Machine, 0))), some (.inl m), some (.inl M), some (.inl g), some (.inl t), none, none] [] (srl σ [(r_Machine_circles, C)]) _
        refine wp_run 1 (pc' := 14) (ls' := [some (.inr (.inr (r_Machine, 0))), some (.inl m), some (.inl M), some (.inl g), some (.inl t), none, none]) (st' := [.inl g]) (σ' := srl σ [(r_Machine_circles, C)]) rfl ?_
        refine wp_if_eq rfl (by omega) (fun h_7 => ?_) (fun h_7 => ?_)
        · show en_wp k_X1_mostCircles 87 [some (.inr (.inr (r_Machine, 0))), some (.inl m), some (.inl M), some (.inl g), some (.inl t), none, none] [] (srl σ [(r_Machine_circles, C)]) _
          refine wp_run 1 (pc' := 88) (ls' := [some (.inr (.inr (r_Machine, 0))), some (.inl m), some (.inl M), some (.inl g), some (.inl t), none, none]) (st' := [.inl M]) (σ' := srl σ [(r_Machine_circles, C)]) rfl ?_
          exact wp_iret rfl ⟨C, M, rfl, srl_eq (l' := [(r_Machine_circles, C)]) (And.intro rfl trivial) (And.intro rfl trivial), (cr_fin hTr hI9 ht.1 (by omega))⟩
        · show en_wp k_X1_mostCircles 17 [some (.inr (.inr (r_Machine, 0))), some (.inl m), some (.inl M), some (.inl g), some (.inl t), none, none] [] (srl σ [(r_Machine_circles, C)]) _
          refine wp_run 4 (pc' := 22) (ls' := [some (.inr (.inr (r_Machine, 0))), some (.inl m), some (.inl M), some (.inl 0), some (.inl t), some (.inl 0), none]) (st' := []) (σ' := srl σ [(r_Machine_circles, C)]) rfl ?_
          exact L_22 _ 0 M 0 C (by omega) (by omega) (by omega) (by omega) (cr_in hI9) (Nat.lt_succ_self _)
  refine wp_run 6 (pc' := 7) (ls' := [some (.inr (.inr (r_Machine, 0))), some (.inl m), some (.inl 0), some (.inl 1), some (.inl 0), none, none]) (st' := []) (σ' := srl σ []) rfl ?_
  refine wp_mem (srl_eq (l' := [(r_Machine_circles, (σ r_Machine_circles))]) trivial (And.intro rfl trivial)) ?_
  exact L_7 _ 0 0 1 (σ r_Machine_circles) (by omega) (by omega) (by omega) (cr_0 hTr (fun w a b => hC0 w a (by omega))) (Nat.lt_succ_self _)
theorem ct_X1_growthOfLeft (σ : en_m) (n : Int) (D : Int) (p : Int) (L : Int → Int) (hI : cS0 σ n D p) (g01 : R01 ((σ r_Nought0_leading))) (hLL : ∀ x, 0 ≤ x → x < sS n D (D + 1) → (σ r_Nought0_leading) x = L x) : en_ct z_X1_growthOfLeft [.inr (.inr (r_Machine, 0))] σ (fun r σ' => ∃ (f_Machine_reachLow : Int → Int), ∃ (f_Machine_reachHigh : Int → Int), ∃ (f_Machine_circles : Int → Int), ∃ (rr : Int), r = some (.inl rr) ∧ σ' = srl σ [(r_Machine_reachLow, f_Machine_reachLow), (r_Machine_reachHigh, f_Machine_reachHigh), (r_Machine_circles, f_Machine_circles)] ∧ (∃ q, isPL L n D q ∧ grR L n D q rr)) := by
  show en_wp k_X1_growthOfLeft 0 [some (.inr (.inr (r_Machine, 0))), none, none, none] [] (srl σ []) (fun r σ' => ∃ (f_Machine_reachLow : Int → Int), ∃ (f_Machine_reachHigh : Int → Int), ∃ (f_Machine_circles : Int → Int), ∃ (rr : Int), r = some (.inl rr) ∧ σ' = srl σ [(r_Machine_reachLow, f_Machine_reachLow), (r_Machine_reachHigh, f_Machine_reachHigh), (r_Machine_circles, f_Machine_circles)] ∧ (∃ q, isPL L n D q ∧ grR L n D q rr))
  have hI2 := hI
  obtain ⟨hO, hn, hD, hp, hm, hst, hln⟩ := hI2
  obtain ⟨⟨hO1, hO2⟩, ⟨hO3, hO4⟩, hO5, hO6, hO7, hO8⟩ := id hO
  have L_27 : ∀ (N : Nat) (w : Int) (q : Int) (A9 : Int → Int) (B9 : Int → Int) (C : Int → Int), (isPL L n D q) → (∀ a b, 0 ≤ a → a < sW n D q → 0 ≤ b → b < sW n D q → bL A9 B9 a b = gT L n D q a b) → (0 ≤ w ∧ w ≤ sW n D q) → (∀ t, 0 ≤ t → t < w → cw L n D q t n.toNat ≤ 1) → (∀ t, 0 ≤ t → t < w → C t = bI (gT L n D q t t = true)) → (sW n D q - w).toNat < N → en_wp k_X1_growthOfLeft 27 [some (.inr (.inr (r_Machine, 0))), some (.inl q), some (.inl (sW n D q)), some (.inl w)] [] (srl σ [(r_Machine_reachLow, A9), (r_Machine_reachHigh, B9), (r_Machine_circles, C)]) (fun r σ' => ∃ (f_Machine_reachLow : Int → Int), ∃ (f_Machine_reachHigh : Int → Int), ∃ (f_Machine_circles : Int → Int), ∃ (rr : Int), r = some (.inl rr) ∧ σ' = srl σ [(r_Machine_reachLow, f_Machine_reachLow), (r_Machine_reachHigh, f_Machine_reachHigh), (r_Machine_circles, f_Machine_circles)] ∧ (∃ q, isPL L n D q ∧ grR L n D q rr)) := by
    intro N
    induction N with
    | zero => intro w q A9 B9 C; intros; omega
    | succ N ih_27 =>
      intro w q A9 B9 C hpl hgc hw hno hC hN_27
      have hqb := isPL_b hpl hO3
      have hWq := sW_b (k := q) hO
      have h81 := sW_81 hO hqb.2.2
      refine wp_run 2 (pc' := 29) (ls' := [some (.inr (.inr (r_Machine, 0))), some (.inl q), some (.inl (sW n D q)), some (.inl w)]) (st' := [.inl (sW n D q), .inl w]) (σ' := srl σ [(r_Machine_reachLow, A9), (r_Machine_reachHigh, B9), (r_Machine_circles, C)]) rfl ?_
      refine wp_ic_ge rfl (by omega) (by omega) (fun h_1 => ?_) (fun h_1 => ?_)
      · show en_wp k_X1_growthOfLeft 71 [some (.inr (.inr (r_Machine, 0))), some (.inl q), some (.inl (sW n D q)), some (.inl w)] [] (srl σ [(r_Machine_reachLow, A9), (r_Machine_reachHigh, B9), (r_Machine_circles, C)]) _
        refine wp_run 2 (pc' := 73) (ls' := [some (.inr (.inr (r_Machine, 0))), some (.inl q), some (.inl (sW n D q)), some (.inl w)]) (st' := [.inl (sW n D q), .inr (.inr (r_Machine, 0))]) (σ' := srl σ [(r_Machine_reachLow, A9), (r_Machine_reachHigh, B9), (r_Machine_circles, C)]) rfl ?_
        refine wp_callv rfl rfl rfl rfl (ct_X1_mostCircles (srl σ [(r_Machine_reachLow, A9), (r_Machine_reachHigh, B9), (r_Machine_circles, C)]) n D p L q (sW n D q) hI (by omega) (by omega) hgc (fun t a b => hC t a (by omega))) ?_
        rintro _ _ ⟨f_2, r_3, rfl, rfl, p_4⟩
        have p_4 : r_3 = mx (hT (gT L n D q) (sW n D q).toNat) (sW n D q).toNat := p_4
        refine wp_bk (l2 := [(r_Machine_reachLow, A9), (r_Machine_reachHigh, B9), (r_Machine_circles, f_2)]) rfl rfl ?_
        show en_wp k_X1_growthOfLeft 76 [some (.inr (.inr (r_Machine, 0))), some (.inl q), some (.inl (sW n D q)), some (.inl w)] [.inl r_3] (srl σ [(r_Machine_reachLow, A9), (r_Machine_reachHigh, B9), (r_Machine_circles, f_2)]) _
        have km := p_4
        exact wp_iret rfl ⟨A9, B9, f_2, r_3, rfl, srl_eq (l' := [(r_Machine_reachLow, A9), (r_Machine_reachHigh, B9), (r_Machine_circles, f_2)]) (And.intro rfl (And.intro rfl (And.intro rfl trivial))) (And.intro rfl (And.intro rfl (And.intro rfl trivial))), ⟨q, hpl, .inr ⟨fun t a b => hno t a (by omega), km⟩⟩⟩
      · show en_wp k_X1_growthOfLeft 32 [some (.inr (.inr (r_Machine, 0))), some (.inl q), some (.inl (sW n D q)), some (.inl w)] [] (srl σ [(r_Machine_reachLow, A9), (r_Machine_reachHigh, B9), (r_Machine_circles, C)]) _
        refine wp_run 6 (pc' := 40) (ls' := [some (.inr (.inr (r_Machine, 0))), some (.inl q), some (.inl (sW n D q)), some (.inl w)]) (st' := [.inl w, .inl w, .inr (.inr (r_Machine, 0)), .inl w, .inr (.inr (r_Machine_circles, 0))]) (σ' := srl σ [(r_Machine_reachLow, A9), (r_Machine_reachHigh, B9), (r_Machine_circles, C)]) rfl ?_
        refine wp_fnv (v := .inl (bI (bL (A9) (B9) w w = true))) rfl rfl rfl rfl (ct_X1_comesTo (srl σ [(r_Machine_reachLow, A9), (r_Machine_reachHigh, B9), (r_Machine_circles, C)]) w w (by omega) (by omega)) ?_
        show en_wp k_X1_growthOfLeft 43 [some (.inr (.inr (r_Machine, 0))), some (.inl q), some (.inl (sW n D q)), some (.inl w)] [.inl (bI (bL (A9) (B9) w w = true)), .inl w, .inr (.inr (r_Machine_circles, 0))] (srl σ [(r_Machine_reachLow, A9), (r_Machine_reachHigh, B9), (r_Machine_circles, C)]) _
        refine wp_if_eqb rfl (fun h_5 => ?_) (fun h_5 => ?_)
        · have hk9 : ¬ gT L n D q w w = true := fun g => h_5 ((hgc _ _ hw.1 (by omega) hw.1 (by omega)).trans g)
          show en_wp k_X1_growthOfLeft 50 [some (.inr (.inr (r_Machine, 0))), some (.inl q), some (.inl (sW n D q)), some (.inl w)] [.inl w, .inr (.inr (r_Machine_circles, 0))] (srl σ [(r_Machine_reachLow, A9), (r_Machine_reachHigh, B9), (r_Machine_circles, C)]) _
          refine wp_run 1 (pc' := 51) (ls' := [some (.inr (.inr (r_Machine, 0))), some (.inl q), some (.inl (sW n D q)), some (.inl w)]) (st' := [.inl 0, .inl w, .inr (.inr (r_Machine_circles, 0))]) (σ' := srl σ [(r_Machine_reachLow, A9), (r_Machine_reachHigh, B9), (r_Machine_circles, C)]) rfl ?_
          refine wp_iast0 rfl rfl (by omega) (wp_wr (l2 := [(r_Machine_reachLow, A9), (r_Machine_reachHigh, B9), (r_Machine_circles, (up C w 0))]) rfl ?_)
          show en_wp k_X1_growthOfLeft 52 [some (.inr (.inr (r_Machine, 0))), some (.inl q), some (.inl (sW n D q)), some (.inl w)] [] (srl σ [(r_Machine_reachLow, A9), (r_Machine_reachHigh, B9), (r_Machine_circles, (up C w 0))]) _
          refine wp_run 3 (pc' := 55) (ls' := [some (.inr (.inr (r_Machine, 0))), some (.inl q), some (.inl (sW n D q)), some (.inl w)]) (st' := [.inl w, .inl q, .inr (.inr (r_Machine, 0))]) (σ' := srl σ [(r_Machine_reachLow, A9), (r_Machine_reachHigh, B9), (r_Machine_circles, (up C w 0))]) rfl ?_
          refine wp_fnv (v := .inl (cw L n D q w (n).toNat)) rfl rfl rfl rfl (ct_X1_waysBack (srl σ [(r_Machine_reachLow, A9), (r_Machine_reachHigh, B9), (r_Machine_circles, (up C w 0))]) n D p L q w hI (by omega) (by omega) hgc g01 hLL) ?_
          show en_wp k_X1_growthOfLeft 58 [some (.inr (.inr (r_Machine, 0))), some (.inl q), some (.inl (sW n D q)), some (.inl w)] [.inl (cw L n D q w (n).toNat)] (srl σ [(r_Machine_reachLow, A9), (r_Machine_reachHigh, B9), (r_Machine_circles, (up C w 0))]) _
          have q_6 : 0 ≤ cw L n D q w (n).toNat ∧ cw L n D q w (n).toNat ≤ (n).toNat := cw_b _ _ _ _ _ _
          refine wp_run 1 (pc' := 59) (ls' := [some (.inr (.inr (r_Machine, 0))), some (.inl q), some (.inl (sW n D q)), some (.inl w)]) (st' := [.inl 1, .inl (cw L n D q w (n).toNat)]) (σ' := srl σ [(r_Machine_reachLow, A9), (r_Machine_reachHigh, B9), (r_Machine_circles, (up C w 0))]) rfl ?_
          refine wp_ic_le rfl (by omega) (by omega) (fun h_7 => ?_) (fun h_7 => ?_)
          · show en_wp k_X1_growthOfLeft 65 [some (.inr (.inr (r_Machine, 0))), some (.inl q), some (.inl (sW n D q)), some (.inl w)] [] (srl σ [(r_Machine_reachLow, A9), (r_Machine_reachHigh, B9), (r_Machine_circles, (up C w 0))]) _
            refine wp_run 2 (pc' := 27) (ls' := [some (.inr (.inr (r_Machine, 0))), some (.inl q), some (.inl (sW n D q)), some (.inl (w + 1))]) (st' := []) (σ' := srl σ [(r_Machine_reachLow, A9), (r_Machine_reachHigh, B9), (r_Machine_circles, (up C w 0))]) rfl ?_
            exact ih_27 (w + 1) q A9 B9 (up C w 0) hpl hgc (by omega) (fun t a b => by rcases Int.lt_or_eq_of_le (show t ≤ w by omega) with h5 | h5 <;> first | exact hno t a h5 | (rw [h5]; omega)) (fun t a b => by rcases Int.lt_or_eq_of_le (show t ≤ w by omega) with h5 | h5 <;> first | (rw [up_ne (by omega)]; exact hC t a h5) | (rw [h5, up_eq, bI_f hk9])) (by omega)
          · show en_wp k_X1_growthOfLeft 62 [some (.inr (.inr (r_Machine, 0))), some (.inl q), some (.inl (sW n D q)), some (.inl w)] [] (srl σ [(r_Machine_reachLow, A9), (r_Machine_reachHigh, B9), (r_Machine_circles, (up C w 0))]) _
            refine wp_run 1 (pc' := 64) (ls' := [some (.inr (.inr (r_Machine, 0))), some (.inl q), some (.inl (sW n D q)), some (.inl w)]) (st' := [.inl (-2)]) (σ' := srl σ [(r_Machine_reachLow, A9), (r_Machine_reachHigh, B9), (r_Machine_circles, (up C w 0))]) rfl ?_
            exact wp_iret rfl ⟨A9, B9, (up C w 0), (-2), rfl, srl_eq (l' := [(r_Machine_reachLow, A9), (r_Machine_reachHigh, B9), (r_Machine_circles, (up C w 0))]) (And.intro rfl (And.intro rfl (And.intro rfl trivial))) (And.intro rfl (And.intro rfl (And.intro rfl trivial))), ⟨q, hpl, .inl ⟨rfl, w, hw.1, by omega, by assumption⟩⟩⟩
        · have hk9 : gT L n D q w w = true := (hgc _ _ hw.1 (by omega) hw.1 (by omega)).symm.trans h_5
          show en_wp k_X1_growthOfLeft 46 [some (.inr (.inr (r_Machine, 0))), some (.inl q), some (.inl (sW n D q)), some (.inl w)] [.inl w, .inr (.inr (r_Machine_circles, 0))] (srl σ [(r_Machine_reachLow, A9), (r_Machine_reachHigh, B9), (r_Machine_circles, C)]) _
          refine wp_run 2 (pc' := 51) (ls' := [some (.inr (.inr (r_Machine, 0))), some (.inl q), some (.inl (sW n D q)), some (.inl w)]) (st' := [.inl 1, .inl w, .inr (.inr (r_Machine_circles, 0))]) (σ' := srl σ [(r_Machine_reachLow, A9), (r_Machine_reachHigh, B9), (r_Machine_circles, C)]) rfl ?_
          refine wp_iast0 rfl rfl (by omega) (wp_wr (l2 := [(r_Machine_reachLow, A9), (r_Machine_reachHigh, B9), (r_Machine_circles, (up C w 1))]) rfl ?_)
          show en_wp k_X1_growthOfLeft 52 [some (.inr (.inr (r_Machine, 0))), some (.inl q), some (.inl (sW n D q)), some (.inl w)] [] (srl σ [(r_Machine_reachLow, A9), (r_Machine_reachHigh, B9), (r_Machine_circles, (up C w 1))]) _
          refine wp_run 3 (pc' := 55) (ls' := [some (.inr (.inr (r_Machine, 0))), some (.inl q), some (.inl (sW n D q)), some (.inl w)]) (st' := [.inl w, .inl q, .inr (.inr (r_Machine, 0))]) (σ' := srl σ [(r_Machine_reachLow, A9), (r_Machine_reachHigh, B9), (r_Machine_circles, (up C w 1))]) rfl ?_
          refine wp_fnv (v := .inl (cw L n D q w (n).toNat)) rfl rfl rfl rfl (ct_X1_waysBack (srl σ [(r_Machine_reachLow, A9), (r_Machine_reachHigh, B9), (r_Machine_circles, (up C w 1))]) n D p L q w hI (by omega) (by omega) hgc g01 hLL) ?_
          show en_wp k_X1_growthOfLeft 58 [some (.inr (.inr (r_Machine, 0))), some (.inl q), some (.inl (sW n D q)), some (.inl w)] [.inl (cw L n D q w (n).toNat)] (srl σ [(r_Machine_reachLow, A9), (r_Machine_reachHigh, B9), (r_Machine_circles, (up C w 1))]) _
          have q_8 : 0 ≤ cw L n D q w (n).toNat ∧ cw L n D q w (n).toNat ≤ (n).toNat := cw_b _ _ _ _ _ _
          refine wp_run 1 (pc' := 59) (ls' := [some (.inr (.inr (r_Machine, 0))), some (.inl q), some (.inl (sW n D q)), some (.inl w)]) (st' := [.inl 1, .inl (cw L n D q w (n).toNat)]) (σ' := srl σ [(r_Machine_reachLow, A9), (r_Machine_reachHigh, B9), (r_Machine_circles, (up C w 1))]) rfl ?_
          refine wp_ic_le rfl (by omega) (by omega) (fun h_9 => ?_) (fun h_9 => ?_)
          · show en_wp k_X1_growthOfLeft 65 [some (.inr (.inr (r_Machine, 0))), some (.inl q), some (.inl (sW n D q)), some (.inl w)] [] (srl σ [(r_Machine_reachLow, A9), (r_Machine_reachHigh, B9), (r_Machine_circles, (up C w 1))]) _
            refine wp_run 2 (pc' := 27) (ls' := [some (.inr (.inr (r_Machine, 0))), some (.inl q), some (.inl (sW n D q)), some (.inl (w + 1))]) (st' := []) (σ' := srl σ [(r_Machine_reachLow, A9), (r_Machine_reachHigh, B9), (r_Machine_circles, (up C w 1))]) rfl ?_
            exact ih_27 (w + 1) q A9 B9 (up C w 1) hpl hgc (by omega) (fun t a b => by rcases Int.lt_or_eq_of_le (show t ≤ w by omega) with h5 | h5 <;> first | exact hno t a h5 | (rw [h5]; omega)) (fun t a b => by rcases Int.lt_or_eq_of_le (show t ≤ w by omega) with h5 | h5 <;> first | (rw [up_ne (by omega)]; exact hC t a h5) | (rw [h5, up_eq, bI_t hk9])) (by omega)
          · show en_wp k_X1_growthOfLeft 62 [some (.inr (.inr (r_Machine, 0))), some (.inl q), some (.inl (sW n D q)), some (.inl w)] [] (srl σ [(r_Machine_reachLow, A9), (r_Machine_reachHigh, B9), (r_Machine_circles, (up C w 1))]) _
            refine wp_run 1 (pc' := 64) (ls' := [some (.inr (.inr (r_Machine, 0))), some (.inl q), some (.inl (sW n D q)), some (.inl w)]) (st' := [.inl (-2)]) (σ' := srl σ [(r_Machine_reachLow, A9), (r_Machine_reachHigh, B9), (r_Machine_circles, (up C w 1))]) rfl ?_
            exact wp_iret rfl ⟨A9, B9, (up C w 1), (-2), rfl, srl_eq (l' := [(r_Machine_reachLow, A9), (r_Machine_reachHigh, B9), (r_Machine_circles, (up C w 1))]) (And.intro rfl (And.intro rfl (And.intro rfl trivial))) (And.intro rfl (And.intro rfl (And.intro rfl trivial))), ⟨q, hpl, .inl ⟨rfl, w, hw.1, by omega, by assumption⟩⟩⟩
  refine wp_run 1 (pc' := 1) (ls' := [some (.inr (.inr (r_Machine, 0))), none, none, none]) (st' := [.inr (.inr (r_Machine, 0))]) (σ' := srl σ []) rfl ?_
  refine wp_callv rfl rfl rfl rfl (ct_X1_placeLetters σ n D p L hI g01 hLL) ?_
  rintro _ _ ⟨r_10, rfl, rfl, p_11⟩
  have p_11 : isPL L n D r_10 := p_11
  show en_wp k_X1_growthOfLeft 4 [some (.inr (.inr (r_Machine, 0))), none, none, none] [.inl r_10] (srl σ []) _
  have hpl := p_11
  have hqb := isPL_b hpl hO3
  have hWq := sW_b (k := r_10) hO
  have h81 := sW_81 hO hqb.2.2
  have hmn : min (sW n D r_10) 81 = sW n D r_10 := Int.min_eq_left h81
  refine wp_run 4 (pc' := 10) (ls' := [some (.inr (.inr (r_Machine, 0))), some (.inl r_10), none, none]) (st' := [.inl r_10, .inr (.inr (r_Shape0, 0))]) (σ' := srl σ []) rfl ?_
  refine wp_fnv (v := .inl (sW n D r_10)) rfl rfl rfl rfl (ct_X5_wordsOf_Shape0 σ n D p r_10 hI (by omega)) ?_
  show en_wp k_X1_growthOfLeft 13 [some (.inr (.inr (r_Machine, 0))), some (.inl r_10), none, none] [.inl (sW n D r_10)] (srl σ []) _
  have q_12 : 0 ≤ sW n D r_10 ∧ sW n D r_10 ≤ 256 := sW_b hO
  refine wp_run 1 (pc' := 15) (ls' := [some (.inr (.inr (r_Machine, 0))), some (.inl r_10), none, none]) (st' := [.inl 81, .inl (sW n D r_10)]) (σ' := srl σ []) rfl ?_
  refine wp_min rfl rfl (by omega) (by omega) ?_
  show en_wp k_X1_growthOfLeft 18 [some (.inr (.inr (r_Machine, 0))), some (.inl r_10), none, none] [.inl (min (sW n D r_10) 81)] (srl σ []) _
  rw [hmn]
  show en_wp k_X1_growthOfLeft 18 [some (.inr (.inr (r_Machine, 0))), some (.inl r_10), none, none] [.inl (sW n D r_10)] (srl σ []) _
  refine wp_run 4 (pc' := 22) (ls' := [some (.inr (.inr (r_Machine, 0))), some (.inl r_10), some (.inl (sW n D r_10)), none]) (st' := [.inl (sW n D r_10), .inl r_10, .inr (.inr (r_Machine, 0))]) (σ' := srl σ []) rfl ?_
  refine wp_callv rfl rfl rfl rfl (ct_X1_findWays σ n D p L r_10 (sW n D r_10) hI (by omega) (by omega) g01 hLL) ?_
  rintro _ _ ⟨f_13, f_14, rfl, rfl, p_15⟩
  have p_15 : ∀ a b, 0 ≤ a → a < sW n D r_10 → 0 ≤ b → b < sW n D r_10 → bL f_13 f_14 a b = gT L n D r_10 a b := p_15
  show en_wp k_X1_growthOfLeft 25 [some (.inr (.inr (r_Machine, 0))), some (.inl r_10), some (.inl (sW n D r_10)), none] [] (srl σ [(r_Machine_reachLow, f_13), (r_Machine_reachHigh, f_14)]) _
  have kw := p_15
  refine wp_run 2 (pc' := 27) (ls' := [some (.inr (.inr (r_Machine, 0))), some (.inl r_10), some (.inl (sW n D r_10)), some (.inl 0)]) (st' := []) (σ' := srl σ [(r_Machine_reachLow, f_13), (r_Machine_reachHigh, f_14)]) rfl ?_
  refine wp_mem (srl_eq (l' := [(r_Machine_reachLow, f_13), (r_Machine_reachHigh, f_14), (r_Machine_circles, (σ r_Machine_circles))]) (And.intro rfl (And.intro rfl trivial)) (And.intro rfl (And.intro rfl (And.intro rfl trivial)))) ?_
  exact L_27 _ 0 r_10 f_13 f_14 (σ r_Machine_circles) hpl kw (by omega) (fun t a b => by omega) (fun t a b => by omega) (Nat.lt_succ_self _)
