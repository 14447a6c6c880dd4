/-! contracts of methods, walked (written by wip/whole/walk.py from the annotations ann_m39) -/
set_option maxRecDepth 8000 in
theorem ct_X12_closes (σ : en_m) (n : Int) (D : Int) (p : Int) (q : Int) (hI : mI σ n D p) (hq : (σ r_Md_placeLetters) 0 = q ∧ isPL ((σ r_Md_leads)) n D q) (hlf : (∀ w, 0 ≤ w → w < sW n D q → (σ r_Md_isLeft) w = bI ((σ r_Md_leads) (sS n D q + w) = 0)) ∧ R01 ((σ r_Md_isLeft))) (hlead : R01 ((σ r_Md_leads))) (hcm : R01 ((σ r_Md_comes))) : en_ct z_X12_closes [.inr (.inr (r_Md, 0))] σ (fun r σ' => ∃ (f_Md_comes : Int → Int), r = none ∧ σ' = srl σ [(r_Md_comes, f_Md_comes)] ∧ (∀ a b, 0 ≤ a → a < sW n D q → 0 ≤ b → b < sW n D q → mG f_Md_comes a b = gT ((σ r_Md_leads)) n D q a b) ∧ (R01 f_Md_comes)) := by
  show en_wp k_X12_closes 0 [some (.inr (.inr (r_Md, 0))), none, none, none, none] [] (srl σ []) (fun r σ' => ∃ (f_Md_comes : Int → Int), r = none ∧ σ' = srl σ [(r_Md_comes, f_Md_comes)] ∧ (∀ a b, 0 ≤ a → a < sW n D q → 0 ≤ b → b < sW n D q → mG f_Md_comes a b = gT ((σ r_Md_leads)) n D q a b) ∧ (R01 f_Md_comes))
  have hI2 := hI
  obtain ⟨hO, hL, hn, hD, hp, hpw, hst⟩ := hI2
  obtain ⟨⟨hO1, hO2⟩, ⟨hO3, hO4⟩, hO5, hO6, hO7, hO8⟩ := id hO
  have hqb := isPL_b hq.2 hO3
  have hWq : 0 ≤ sW n D q ∧ sW n D q ≤ 256 := sW_b hO
  have h81 : sW n D q ≤ 81 := sW_81 hO hqb.2.2
  have L_93 : ∀ (N : Nat) (m : Int) (X : Int → Int), (0 ≤ m ∧ m ≤ sW n D q) → (R01 X) → (wG (fun u v => stB (σ r_Md_leads) n D q u v n.toNat) (sW n D q) (mG X) m 0 0) → (sW n D q - m).toNat < N → en_wp k_X12_closes 93 [some (.inr (.inr (r_Md, 0))), some (.inl (sW n D q)), some (.inl m), none, none] [] (srl σ [(r_Md_comes, X)]) (fun r σ' => ∃ (f_Md_comes : Int → Int), r = none ∧ σ' = srl σ [(r_Md_comes, f_Md_comes)] ∧ (∀ a b, 0 ≤ a → a < sW n D q → 0 ≤ b → b < sW n D q → mG f_Md_comes a b = gT ((σ r_Md_leads)) n D q a b) ∧ (R01 f_Md_comes)) := by
    intro N
    induction N with
    | zero => intro m X; intros; omega
    | succ N ih_93 =>
      intro m X hm hX hG hN_93
      have L_100 : ∀ (N : Nat) (u : Int) (X : Int → Int), (m < sW n D q) → (0 ≤ u ∧ u ≤ sW n D q) → (R01 X) → (wG (fun u v => stB (σ r_Md_leads) n D q u v n.toNat) (sW n D q) (mG X) m u 0) → (sW n D q - u).toNat < N → en_wp k_X12_closes 100 [some (.inr (.inr (r_Md, 0))), some (.inl (sW n D q)), some (.inl m), some (.inl u), none] [] (srl σ [(r_Md_comes, X)]) (fun r σ' => ∃ (f_Md_comes : Int → Int), r = none ∧ σ' = srl σ [(r_Md_comes, f_Md_comes)] ∧ (∀ a b, 0 ≤ a → a < sW n D q → 0 ≤ b → b < sW n D q → mG f_Md_comes a b = gT ((σ r_Md_leads)) n D q a b) ∧ (R01 f_Md_comes)) := by
        intro N
        induction N with
        | zero => intro u X; intros; omega
        | succ N ih_100 =>
          intro u X hmm hu hX hG hN_100
          have L_126 : ∀ (N : Nat) (v : Int) (X : Int → Int), (u < sW n D q) → (0 ≤ v ∧ v ≤ sW n D q) → (R01 X) → (wG (fun u v => stB (σ r_Md_leads) n D q u v n.toNat) (sW n D q) (mG X) m u v) → (mG X u m = true) → (sW n D q - v).toNat < N → en_wp k_X12_closes 126 [some (.inr (.inr (r_Md, 0))), some (.inl (sW n D q)), some (.inl m), some (.inl u), some (.inl v)] [] (srl σ [(r_Md_comes, X)]) (fun r σ' => ∃ (f_Md_comes : Int → Int), r = none ∧ σ' = srl σ [(r_Md_comes, f_Md_comes)] ∧ (∀ a b, 0 ≤ a → a < sW n D q → 0 ≤ b → b < sW n D q → mG f_Md_comes a b = gT ((σ r_Md_leads)) n D q a b) ∧ (R01 f_Md_comes)) := by
            intro N
            induction N with
            | zero => intro v X; intros; omega
            | succ N ih_126 =>
              intro v X huu hv hX hG hum hN_126
              refine wp_run 2 (pc' := 129) (ls' := [some (.inr (.inr (r_Md, 0))), some (.inl (sW n D q)), some (.inl m), some (.inl u), some (.inl v)]) (st' := [.inl (sW n D q), .inl v]) (σ' := srl σ [(r_Md_comes, X)]) rfl ?_
              refine wp_ic_ge rfl (by omega) (by omega) (fun h_1 => ?_) (fun h_1 => ?_)
              · show en_wp k_X12_closes 168 [some (.inr (.inr (r_Md, 0))), some (.inl (sW n D q)), some (.inl m), some (.inl u), some (.inl v)] [] (srl σ [(r_Md_comes, X)]) _
                refine wp_run 2 (pc' := 100) (ls' := [some (.inr (.inr (r_Md, 0))), some (.inl (sW n D q)), some (.inl m), some (.inl (u + 1)), some (.inl v)]) (st' := []) (σ' := srl σ [(r_Md_comes, X)]) rfl ?_
                refine wp_sub (l := [some (.inr (.inr (r_Md, 0))), some (.inl (sW n D q)), some (.inl m), some (.inl (u + 1)), none]) (And.intro rfl (And.intro rfl (And.intro rfl (And.intro rfl trivial)))) ?_
                exact ih_100 (u + 1) X (by omega) (by omega) hX (wG_row hG (by omega)) (by omega)
              · show en_wp k_X12_closes 132 [some (.inr (.inr (r_Md, 0))), some (.inl (sW n D q)), some (.inl m), some (.inl u), some (.inl v)] [] (srl σ [(r_Md_comes, X)]) _
                refine wp_run 7 (pc' := 144) (ls' := [some (.inr (.inr (r_Md, 0))), some (.inl (sW n D q)), some (.inl m), some (.inl u), some (.inl v)]) (st' := [.inl ((256 * m) + v), .inr (.inr (r_Md_comes, 0))]) (σ' := srl σ [(r_Md_comes, X)]) rfl ?_
                have hix := ix_b (w := 256) (m := 256) (i := m) (j := v) (B := 65536) (by omega) (by omega) (by decide)
                have h01 := hX (256 * m + v)
                refine wp_bald0 rfl (.inr rfl) (by omega) ?_
                show en_wp k_X12_closes 145 [some (.inr (.inr (r_Md, 0))), some (.inl (sW n D q)), some (.inl m), some (.inl u), some (.inl v)] [.inl (X ((256 * m) + v))] (srl σ [(r_Md_comes, X)]) _
                refine wp_if_eq rfl (by omega) (fun h_2 => ?_) (fun h_2 => ?_)
                · show en_wp k_X12_closes 162 [some (.inr (.inr (r_Md, 0))), some (.inl (sW n D q)), some (.inl m), some (.inl u), some (.inl v)] [] (srl σ [(r_Md_comes, X)]) _
                  refine wp_run 2 (pc' := 126) (ls' := [some (.inr (.inr (r_Md, 0))), some (.inl (sW n D q)), some (.inl m), some (.inl u), some (.inl (v + 1))]) (st' := []) (σ' := srl σ [(r_Md_comes, X)]) rfl ?_
                  exact ih_126 (v + 1) X (by omega) (by omega) hX (wG_no hG ⟨hm.1, hmm⟩ (by omega) (by omega) (mG_f (by omega))) hum (by omega)
                · show en_wp k_X12_closes 148 [some (.inr (.inr (r_Md, 0))), some (.inl (sW n D q)), some (.inl m), some (.inl u), some (.inl v)] [] (srl σ [(r_Md_comes, X)]) _
                  refine wp_run 8 (pc' := 161) (ls' := [some (.inr (.inr (r_Md, 0))), some (.inl (sW n D q)), some (.inl m), some (.inl u), some (.inl v)]) (st' := [.inl 1, .inl ((256 * u) + v), .inr (.inr (r_Md_comes, 0))]) (σ' := srl σ [(r_Md_comes, X)]) rfl ?_
                  have hi2 := ix_b (w := 256) (m := 256) (i := u) (j := v) (B := 65536) (by omega) (by omega) (by decide)
                  refine wp_zast0 rfl rfl (by omega) (.inr rfl) (wp_wr (l2 := [(r_Md_comes, (up X ((256 * u) + v) 1))]) rfl ?_)
                  show en_wp k_X12_closes 162 [some (.inr (.inr (r_Md, 0))), some (.inl (sW n D q)), some (.inl m), some (.inl u), some (.inl v)] [] (srl σ [(r_Md_comes, (up X ((256 * u) + v) 1))]) _
                  refine wp_run 2 (pc' := 126) (ls' := [some (.inr (.inr (r_Md, 0))), some (.inl (sW n D q)), some (.inl m), some (.inl u), some (.inl (v + 1))]) (st' := []) (σ' := srl σ [(r_Md_comes, (up X ((256 * u) + v) 1))]) rfl ?_
                  exact ih_126 (v + 1) (up X ((256 * u) + v) 1) (by omega) (by omega) (R01_up hX (.inr rfl)) (wG_hit hG ⟨hm.1, hmm⟩ (by omega) (by omega) hum (mG_t hX (by assumption)) (fun a b _ _ b0 b1 => mG_up (N := sW n D q) hWq.2 (by omega) a b b0 b1)) (by rw [mG_up (N := sW n D q) hWq.2 (by omega) u m hm.1 hmm]; split; rfl; exact hum) (by omega)
          refine wp_run 2 (pc' := 102) (ls' := [some (.inr (.inr (r_Md, 0))), some (.inl (sW n D q)), some (.inl m), some (.inl u), none]) (st' := [.inl (sW n D q), .inl u]) (σ' := srl σ [(r_Md_comes, X)]) rfl ?_
          refine wp_ic_ge rfl (by omega) (by omega) (fun h_3 => ?_) (fun h_3 => ?_)
          · show en_wp k_X12_closes 174 [some (.inr (.inr (r_Md, 0))), some (.inl (sW n D q)), some (.inl m), some (.inl u), none] [] (srl σ [(r_Md_comes, X)]) _
            refine wp_run 2 (pc' := 93) (ls' := [some (.inr (.inr (r_Md, 0))), some (.inl (sW n D q)), some (.inl (m + 1)), some (.inl u), none]) (st' := []) (σ' := srl σ [(r_Md_comes, X)]) rfl ?_
            refine wp_sub (l := [some (.inr (.inr (r_Md, 0))), some (.inl (sW n D q)), some (.inl (m + 1)), none, none]) (And.intro rfl (And.intro rfl (And.intro rfl trivial))) ?_
            exact ih_93 (m + 1) X (by omega) hX (wG_next hG (by omega)) (by omega)
          · show en_wp k_X12_closes 105 [some (.inr (.inr (r_Md, 0))), some (.inl (sW n D q)), some (.inl m), some (.inl u), none] [] (srl σ [(r_Md_comes, X)]) _
            refine wp_run 7 (pc' := 116) (ls' := [some (.inr (.inr (r_Md, 0))), some (.inl (sW n D q)), some (.inl m), some (.inl u), none]) (st' := [.inl ((256 * u) + m), .inr (.inr (r_Md_comes, 0))]) (σ' := srl σ [(r_Md_comes, X)]) rfl ?_
            have hix := ix_b (w := 256) (m := 256) (i := u) (j := m) (B := 65536) (by omega) (by omega) (by decide)
            have h01 := hX (256 * u + m)
            refine wp_bald0 rfl (.inr rfl) (by omega) ?_
            show en_wp k_X12_closes 117 [some (.inr (.inr (r_Md, 0))), some (.inl (sW n D q)), some (.inl m), some (.inl u), none] [.inl (X ((256 * u) + m))] (srl σ [(r_Md_comes, X)]) _
            refine wp_if_ne rfl (by omega) (fun h_4 => ?_) (fun h_4 => ?_)
            · show en_wp k_X12_closes 123 [some (.inr (.inr (r_Md, 0))), some (.inl (sW n D q)), some (.inl m), some (.inl u), none] [] (srl σ [(r_Md_comes, X)]) _
              refine wp_run 2 (pc' := 126) (ls' := [some (.inr (.inr (r_Md, 0))), some (.inl (sW n D q)), some (.inl m), some (.inl u), some (.inl 0)]) (st' := []) (σ' := srl σ [(r_Md_comes, X)]) rfl ?_
              exact L_126 _ 0 X (by omega) (by omega) hX hG (mG_t hX (by assumption)) (Nat.lt_succ_self _)
            · show en_wp k_X12_closes 120 [some (.inr (.inr (r_Md, 0))), some (.inl (sW n D q)), some (.inl m), some (.inl u), none] [] (srl σ [(r_Md_comes, X)]) _
              refine wp_run 3 (pc' := 100) (ls' := [some (.inr (.inr (r_Md, 0))), some (.inl (sW n D q)), some (.inl m), some (.inl (u + 1)), none]) (st' := []) (σ' := srl σ [(r_Md_comes, X)]) rfl ?_
              exact ih_100 (u + 1) X (by omega) (by omega) hX (wG_skip hG ⟨hm.1, hmm⟩ (by omega) (mG_f (by omega))) (by omega)
      refine wp_run 2 (pc' := 95) (ls' := [some (.inr (.inr (r_Md, 0))), some (.inl (sW n D q)), some (.inl m), none, none]) (st' := [.inl (sW n D q), .inl m]) (σ' := srl σ [(r_Md_comes, X)]) rfl ?_
      refine wp_ic_ge rfl (by omega) (by omega) (fun h_5 => ?_) (fun h_5 => ?_)
      · show en_wp k_X12_closes 180 [some (.inr (.inr (r_Md, 0))), some (.inl (sW n D q)), some (.inl m), none, none] [] (srl σ [(r_Md_comes, X)]) _
        exact wp_vret rfl ⟨X, rfl, srl_eq (l' := [(r_Md_comes, X)]) (And.intro rfl trivial) (And.intro rfl trivial), ⟨wG_fin hG (by omega) rfl, hX⟩⟩
      · show en_wp k_X12_closes 98 [some (.inr (.inr (r_Md, 0))), some (.inl (sW n D q)), some (.inl m), none, none] [] (srl σ [(r_Md_comes, X)]) _
        refine wp_run 2 (pc' := 100) (ls' := [some (.inr (.inr (r_Md, 0))), some (.inl (sW n D q)), some (.inl m), some (.inl 0), none]) (st' := []) (σ' := srl σ [(r_Md_comes, X)]) rfl ?_
        exact L_100 _ 0 X (by omega) (by omega) hX hG (Nat.lt_succ_self _)
  have L_32 : ∀ (N : Nat) (w : Int) (X : Int → Int), (0 ≤ w ∧ w ≤ sW n D q) → (R01 X) → (cG1 (σ r_Md_leads) n D q (sW n D q) (mG X) w) → (∀ a b, w ≤ a → a < sW n D q → 0 ≤ b → b < sW n D q → mG X a b = false) → (sW n D q - w).toNat < N → en_wp k_X12_closes 32 [some (.inr (.inr (r_Md, 0))), some (.inl (sW n D q)), some (.inl w), none, none] [] (srl σ [(r_Md_comes, X)]) (fun r σ' => ∃ (f_Md_comes : Int → Int), r = none ∧ σ' = srl σ [(r_Md_comes, f_Md_comes)] ∧ (∀ a b, 0 ≤ a → a < sW n D q → 0 ≤ b → b < sW n D q → mG f_Md_comes a b = gT ((σ r_Md_leads)) n D q a b) ∧ (R01 f_Md_comes)) := by
    intro N
    induction N with
    | zero => intro w X; intros; omega
    | succ N ih_32 =>
      intro w X hw hX hG hz hN_32
      have L_39 : ∀ (N : Nat) (x : Int) (X : Int → Int), (w < sW n D q) → (0 ≤ x ∧ x ≤ n) → (R01 X) → (cG1 (σ r_Md_leads) n D q (sW n D q) (mG X) w) → (cG2 (σ r_Md_leads) n D q (sW n D q) (mG X) w x) → (∀ a b, w + 1 ≤ a → a < sW n D q → 0 ≤ b → b < sW n D q → mG X a b = false) → (n - x).toNat < N → en_wp k_X12_closes 39 [some (.inr (.inr (r_Md, 0))), some (.inl (sW n D q)), some (.inl w), some (.inl x), none] [] (srl σ [(r_Md_comes, X)]) (fun r σ' => ∃ (f_Md_comes : Int → Int), r = none ∧ σ' = srl σ [(r_Md_comes, f_Md_comes)] ∧ (∀ a b, 0 ≤ a → a < sW n D q → 0 ≤ b → b < sW n D q → mG f_Md_comes a b = gT ((σ r_Md_leads)) n D q a b) ∧ (R01 f_Md_comes)) := by
        intro N
        induction N with
        | zero => intro x X; intros; omega
        | succ N ih_39 =>
          intro x X hww hx hX hG hH hz hN_39
          refine wp_run 5 (pc' := 48) (ls' := [some (.inr (.inr (r_Md, 0))), some (.inl (sW n D q)), some (.inl w), some (.inl x), none]) (st' := [.inl (σ r_Md_live 0), .inr (.inr (r_Md_letters, 0)), .inl x]) (σ' := srl σ [(r_Md_comes, X)]) rfl ?_
          refine wp_iald0 rfl rfl (by omega) ?_
          show en_wp k_X12_closes 49 [some (.inr (.inr (r_Md, 0))), some (.inl (sW n D q)), some (.inl w), some (.inl x), none] [.inl (σ r_Md_letters (σ r_Md_live 0)), .inl x] (srl σ [(r_Md_comes, X)]) _
          rw [hn]
          show en_wp k_X12_closes 49 [some (.inr (.inr (r_Md, 0))), some (.inl (sW n D q)), some (.inl w), some (.inl x), none] [.inl n, .inl x] (srl σ [(r_Md_comes, X)]) _
          refine wp_ic_ge rfl (by omega) (by omega) (fun h_6 => ?_) (fun h_6 => ?_)
          · show en_wp k_X12_closes 85 [some (.inr (.inr (r_Md, 0))), some (.inl (sW n D q)), some (.inl w), some (.inl x), none] [] (srl σ [(r_Md_comes, X)]) _
            refine wp_run 2 (pc' := 32) (ls' := [some (.inr (.inr (r_Md, 0))), some (.inl (sW n D q)), some (.inl (w + 1)), some (.inl x), none]) (st' := []) (σ' := srl σ [(r_Md_comes, X)]) rfl ?_
            refine wp_sub (l := [some (.inr (.inr (r_Md, 0))), some (.inl (sW n D q)), some (.inl (w + 1)), none, none]) (And.intro rfl (And.intro rfl (And.intro rfl trivial))) ?_
            exact ih_32 (w + 1) X (by omega) hX (cG_row hG hH (by omega)) hz (by omega)
          · show en_wp k_X12_closes 52 [some (.inr (.inr (r_Md, 0))), some (.inl (sW n D q)), some (.inl w), some (.inl x), none] [] (srl σ [(r_Md_comes, X)]) _
            refine wp_run 3 (pc' := 55) (ls' := [some (.inr (.inr (r_Md, 0))), some (.inl (sW n D q)), some (.inl w), some (.inl x), none]) (st' := [.inl x, .inl w, .inr (.inr (r_Md, 0))]) (σ' := srl σ [(r_Md_comes, X)]) rfl ?_
            refine wp_fnv (v := .inl (stp ((σ r_Md_leads)) n D q w x)) rfl rfl rfl rfl (ct_X12_onFrom (srl σ [(r_Md_comes, X)]) n D p q w x hI hq hlf hlead (by omega) (by omega)) ?_
            show en_wp k_X12_closes 58 [some (.inr (.inr (r_Md, 0))), some (.inl (sW n D q)), some (.inl w), some (.inl x), none] [.inl (stp ((σ r_Md_leads)) n D q w x)] (srl σ [(r_Md_comes, X)]) _
            have q_7 : -1 ≤ stp ((σ r_Md_leads)) n D q w x ∧ stp ((σ r_Md_leads)) n D q w x < sW n D q := stp_b _ (by omega)
            refine wp_run 2 (pc' := 62) (ls' := [some (.inr (.inr (r_Md, 0))), some (.inl (sW n D q)), some (.inl w), some (.inl x), some (.inl (stp ((σ r_Md_leads)) n D q w x))]) (st' := [.inl (stp ((σ r_Md_leads)) n D q w x)]) (σ' := srl σ [(r_Md_comes, X)]) rfl ?_
            refine wp_if_lt rfl (by omega) (fun h_8 => ?_) (fun h_8 => ?_)
            · show en_wp k_X12_closes 79 [some (.inr (.inr (r_Md, 0))), some (.inl (sW n D q)), some (.inl w), some (.inl x), some (.inl (stp ((σ r_Md_leads)) n D q w x))] [] (srl σ [(r_Md_comes, X)]) _
              refine wp_run 2 (pc' := 39) (ls' := [some (.inr (.inr (r_Md, 0))), some (.inl (sW n D q)), some (.inl w), some (.inl (x + 1)), some (.inl (stp ((σ r_Md_leads)) n D q w x))]) (st' := []) (σ' := srl σ [(r_Md_comes, X)]) rfl ?_
              refine wp_sub (l := [some (.inr (.inr (r_Md, 0))), some (.inl (sW n D q)), some (.inl w), some (.inl (x + 1)), none]) (And.intro rfl (And.intro rfl (And.intro rfl (And.intro rfl trivial)))) ?_
              exact ih_39 (x + 1) X (by omega) (by omega) hX hG (cG_no hx.1 (by omega) hH) hz (by omega)
            · show en_wp k_X12_closes 65 [some (.inr (.inr (r_Md, 0))), some (.inl (sW n D q)), some (.inl w), some (.inl x), some (.inl (stp ((σ r_Md_leads)) n D q w x))] [] (srl σ [(r_Md_comes, X)]) _
              refine wp_run 8 (pc' := 78) (ls' := [some (.inr (.inr (r_Md, 0))), some (.inl (sW n D q)), some (.inl w), some (.inl x), some (.inl (stp ((σ r_Md_leads)) n D q w x))]) (st' := [.inl 1, .inl ((256 * w) + (stp ((σ r_Md_leads)) n D q w x)), .inr (.inr (r_Md_comes, 0))]) (σ' := srl σ [(r_Md_comes, X)]) rfl ?_
              have hix := ix_b (w := 256) (m := 256) (i := w) (j := (stp (σ r_Md_leads) n D q w x)) (B := 65536) (by omega) (by omega) (by decide)
              refine wp_zast0 rfl rfl (by omega) (.inr rfl) (wp_wr (l2 := [(r_Md_comes, (up X ((256 * w) + (stp ((σ r_Md_leads)) n D q w x)) 1))]) rfl ?_)
              show en_wp k_X12_closes 79 [some (.inr (.inr (r_Md, 0))), some (.inl (sW n D q)), some (.inl w), some (.inl x), some (.inl (stp ((σ r_Md_leads)) n D q w x))] [] (srl σ [(r_Md_comes, (up X ((256 * w) + (stp ((σ r_Md_leads)) n D q w x)) 1))]) _
              refine wp_run 2 (pc' := 39) (ls' := [some (.inr (.inr (r_Md, 0))), some (.inl (sW n D q)), some (.inl w), some (.inl (x + 1)), some (.inl (stp ((σ r_Md_leads)) n D q w x))]) (st' := []) (σ' := srl σ [(r_Md_comes, (up X ((256 * w) + (stp ((σ r_Md_leads)) n D q w x)) 1))]) rfl ?_
              refine wp_sub (l := [some (.inr (.inr (r_Md, 0))), some (.inl (sW n D q)), some (.inl w), some (.inl (x + 1)), none]) (And.intro rfl (And.intro rfl (And.intro rfl (And.intro rfl trivial)))) ?_
              exact ih_39 (x + 1) (up X ((256 * w) + (stp ((σ r_Md_leads)) n D q w x)) 1) (by omega) (by omega) (R01_up hX (.inr rfl)) (cG_hit hx.1 rfl (fun a b _ _ b0 b1 => mG_up (N := sW n D q) hWq.2 (by omega) a b b0 b1) hw.1 hG hH).1 (cG_hit hx.1 rfl (fun a b _ _ b0 b1 => mG_up (N := sW n D q) hWq.2 (by omega) a b b0 b1) hw.1 hG hH).2 (fun a b a0 a1 b0 b1 => by rw [mG_up (N := sW n D q) hWq.2 (by omega) a b b0 b1, if_neg (by omega)]; exact hz a b a0 a1 b0 b1) (by omega)
      refine wp_run 2 (pc' := 34) (ls' := [some (.inr (.inr (r_Md, 0))), some (.inl (sW n D q)), some (.inl w), none, none]) (st' := [.inl (sW n D q), .inl w]) (σ' := srl σ [(r_Md_comes, X)]) rfl ?_
      refine wp_ic_ge rfl (by omega) (by omega) (fun h_9 => ?_) (fun h_9 => ?_)
      · show en_wp k_X12_closes 91 [some (.inr (.inr (r_Md, 0))), some (.inl (sW n D q)), some (.inl w), none, none] [] (srl σ [(r_Md_comes, X)]) _
        refine wp_run 2 (pc' := 93) (ls' := [some (.inr (.inr (r_Md, 0))), some (.inl (sW n D q)), some (.inl 0), none, none]) (st' := []) (σ' := srl σ [(r_Md_comes, X)]) rfl ?_
        exact L_93 _ 0 X (by omega) hX (wG_0 hG (by omega)) (Nat.lt_succ_self _)
      · show en_wp k_X12_closes 37 [some (.inr (.inr (r_Md, 0))), some (.inl (sW n D q)), some (.inl w), none, none] [] (srl σ [(r_Md_comes, X)]) _
        refine wp_run 2 (pc' := 39) (ls' := [some (.inr (.inr (r_Md, 0))), some (.inl (sW n D q)), some (.inl w), some (.inl 0), none]) (st' := []) (σ' := srl σ [(r_Md_comes, X)]) rfl ?_
        exact L_39 _ 0 X (by omega) (by omega) hX hG (cG_new (fun b b0 b1 => hz w b (Int.le_refl w) (by omega) b0 b1)) (fun a b a0 a1 b0 b1 => hz a b (by omega) a1 b0 b1) (Nat.lt_succ_self _)
  have L_11 : ∀ (N : Nat) (k : Int) (X : Int → Int), (0 ≤ k ∧ k ≤ 65536) → (X = seg (σ r_Md_comes) 0 k (fun _ => 0)) → (65536 - k).toNat < N → en_wp k_X12_closes 11 [some (.inr (.inr (r_Md, 0))), some (.inl (sW n D q)), some (.inl k), none, none] [] (srl σ [(r_Md_comes, X)]) (fun r σ' => ∃ (f_Md_comes : Int → Int), r = none ∧ σ' = srl σ [(r_Md_comes, f_Md_comes)] ∧ (∀ a b, 0 ≤ a → a < sW n D q → 0 ≤ b → b < sW n D q → mG f_Md_comes a b = gT ((σ r_Md_leads)) n D q a b) ∧ (R01 f_Md_comes)) := by
    intro N
    induction N with
    | zero => intro k X; intros; omega
    | succ N ih_11 =>
      intro k X hk hX0 hN_11
      refine wp_run 2 (pc' := 14) (ls' := [some (.inr (.inr (r_Md, 0))), some (.inl (sW n D q)), some (.inl k), none, none]) (st' := [.inl 65536, .inl k]) (σ' := srl σ [(r_Md_comes, X)]) rfl ?_
      refine wp_ic_ge rfl (by omega) (by omega) (fun h_10 => ?_) (fun h_10 => ?_)
      · show en_wp k_X12_closes 30 [some (.inr (.inr (r_Md, 0))), some (.inl (sW n D q)), some (.inl k), none, none] [] (srl σ [(r_Md_comes, X)]) _
        refine wp_run 2 (pc' := 32) (ls' := [some (.inr (.inr (r_Md, 0))), some (.inl (sW n D q)), some (.inl 0), none, none]) (st' := []) (σ' := srl σ [(r_Md_comes, X)]) rfl ?_
        exact L_32 _ 0 X (by omega) (by rw [hX0]; exact R01_seg hcm (fun _ _ _ => .inl rfl)) (fun a b a0 a1 => by omega) (fun a b a0 a1 b0 b1 => decide_eq_false (by rw [hX0, seg_in0 (by omega)]; decide)) (Nat.lt_succ_self _)
      · show en_wp k_X12_closes 17 [some (.inr (.inr (r_Md, 0))), some (.inl (sW n D q)), some (.inl k), none, none] [] (srl σ [(r_Md_comes, X)]) _
        refine wp_run 4 (pc' := 23) (ls' := [some (.inr (.inr (r_Md, 0))), some (.inl (sW n D q)), some (.inl k), none, none]) (st' := [.inl 0, .inl k, .inr (.inr (r_Md_comes, 0))]) (σ' := srl σ [(r_Md_comes, X)]) rfl ?_
        refine wp_zast0 rfl rfl (by omega) (.inl rfl) (wp_wr (l2 := [(r_Md_comes, (up X k 0))]) rfl ?_)
        show en_wp k_X12_closes 24 [some (.inr (.inr (r_Md, 0))), some (.inl (sW n D q)), some (.inl k), none, none] [] (srl σ [(r_Md_comes, (up X k 0))]) _
        refine wp_run 2 (pc' := 11) (ls' := [some (.inr (.inr (r_Md, 0))), some (.inl (sW n D q)), some (.inl (k + 1)), none, none]) (st' := []) (σ' := srl σ [(r_Md_comes, (up X k 0))]) rfl ?_
        exact ih_11 (k + 1) (up X k 0) (by omega) (by rw [hX0]; exact seg_up0 hk.1 rfl) (by omega)
  refine wp_run 3 (pc' := 5) (ls' := [some (.inr (.inr (r_Md, 0))), none, none, none, none]) (st' := [.inl (σ r_Md_placeLetters 0), .inr (.inr (r_Md, 0))]) (σ' := srl σ []) rfl ?_
  refine wp_fnv (v := .inl (sW n D (σ r_Md_placeLetters 0))) rfl rfl rfl rfl (ct_X12_wide σ n D p (σ r_Md_placeLetters 0) hI (by omega)) ?_
  show en_wp k_X12_closes 8 [some (.inr (.inr (r_Md, 0))), none, none, none, none] [.inl (sW n D (σ r_Md_placeLetters 0))] (srl σ []) _
  rw [hq.1]
  show en_wp k_X12_closes 8 [some (.inr (.inr (r_Md, 0))), none, none, none, none] [.inl (sW n D q)] (srl σ []) _
  have q_11 : 0 ≤ sW n D (σ r_Md_placeLetters 0) ∧ sW n D (σ r_Md_placeLetters 0) ≤ 256 := sW_b hO
  refine wp_run 3 (pc' := 11) (ls' := [some (.inr (.inr (r_Md, 0))), some (.inl (sW n D q)), some (.inl 0), none, none]) (st' := []) (σ' := srl σ []) rfl ?_
  refine wp_mem (srl_eq (l' := [(r_Md_comes, (σ r_Md_comes))]) trivial (And.intro rfl trivial)) ?_
  exact L_11 _ 0 (σ r_Md_comes) (by omega) (seg_0 _ _ _).symm (Nat.lt_succ_self _)
theorem ct_X12_onCircle (σ : en_m) (n : Int) (D : Int) (p : Int) (q : Int) (w : Int) (hI : mI σ n D p) (hw : 0 ≤ w ∧ w < sW n D q) (hgc : (∀ a b, 0 ≤ a → a < sW n D q → 0 ≤ b → b < sW n D q → mG ((σ r_Md_comes)) a b = gT ((σ r_Md_leads)) n D q a b) ∧ R01 ((σ r_Md_comes))) : en_fn z_X12_onCircle [.inr (.inr (r_Md, 0)), .inl w] σ (.inl (bI (gT ((σ r_Md_leads)) n D q w w = true))) := by
  show en_wp k_X12_onCircle 0 [some (.inr (.inr (r_Md, 0))), some (.inl w)] [] (srl σ []) (fun r σ' => r = some (.inl (bI (gT ((σ r_Md_leads)) n D q w w = true))) ∧ σ' = σ)
  have hI2 := hI
  obtain ⟨hO, hL, hn, hD, hp, hpw, hst⟩ := hI2
  obtain ⟨⟨hO1, hO2⟩, ⟨hO3, hO4⟩, hO5, hO6, hO7, hO8⟩ := id hO
  have hWq : 0 ≤ sW n D q ∧ sW n D q ≤ 256 := sW_b hO
  have hix := ix_b (w := 256) (m := 256) (i := w) (j := w) (B := 65536) (by omega) (by omega) (by decide)
  have h01 := hgc.2 (256 * w + w)
  have hv1 : σ r_Md_comes (256 * w + w) = _ := (mG_v hgc.2).trans (by rw [hgc.1 w w hw.1 hw.2 hw.1 hw.2])
  refine wp_run 7 (pc' := 11) (ls' := [some (.inr (.inr (r_Md, 0))), some (.inl w)]) (st' := [.inl ((256 * w) + w), .inr (.inr (r_Md_comes, 0))]) (σ' := srl σ []) rfl ?_
  refine wp_bald0 rfl (.inr rfl) (by omega) ?_
  show en_wp k_X12_onCircle 12 [some (.inr (.inr (r_Md, 0))), some (.inl w)] [.inl (σ r_Md_comes ((256 * w) + w))] (srl σ []) _
  exact wp_zret rfl h01 ⟨(by show some (Sum.inl (σ r_Md_comes (256 * w + w))) = _; rw [hv1]), rfl⟩
theorem ct_X12_inOne (σ : en_m) (n : Int) (D : Int) (p : Int) (q : Int) (u : Int) (v : Int) (hI : mI σ n D p) (hu : 0 ≤ u ∧ u < sW n D q) (hv : 0 ≤ v ∧ v < sW n D q) (hgc : (∀ a b, 0 ≤ a → a < sW n D q → 0 ≤ b → b < sW n D q → mG ((σ r_Md_comes)) a b = gT ((σ r_Md_leads)) n D q a b) ∧ R01 ((σ r_Md_comes))) : en_fn z_X12_inOne [.inr (.inr (r_Md, 0)), .inl u, .inl v] σ (.inl (bI (gT ((σ r_Md_leads)) n D q u v = true ∧ gT ((σ r_Md_leads)) n D q v u = true))) := by
  show en_wp k_X12_inOne 0 [some (.inr (.inr (r_Md, 0))), some (.inl u), some (.inl v)] [] (srl σ []) (fun r σ' => r = some (.inl (bI (gT ((σ r_Md_leads)) n D q u v = true ∧ gT ((σ r_Md_leads)) n D q v u = true))) ∧ σ' = σ)
  have hI2 := hI
  obtain ⟨hO, hL, hn, hD, hp, hpw, hst⟩ := hI2
  obtain ⟨⟨hO1, hO2⟩, ⟨hO3, hO4⟩, hO5, hO6, hO7, hO8⟩ := id hO
  have hWq : 0 ≤ sW n D q ∧ sW n D q ≤ 256 := sW_b hO
  have hi1 := ix_b (w := 256) (m := 256) (i := u) (j := v) (B := 65536) (by omega) (by omega) (by decide)
  have hi2 := ix_b (w := 256) (m := 256) (i := v) (j := u) (B := 65536) (by omega) (by omega) (by decide)
  have h01 := hgc.2 (256 * u + v)
  have h02 := hgc.2 (256 * v + u)
  have hv1 : σ r_Md_comes (256 * u + v) = bI (gT (σ r_Md_leads) n D q u v = true) := (mG_v hgc.2).trans (by rw [hgc.1 u v hu.1 hu.2 hv.1 hv.2])
  have hv2 : σ r_Md_comes (256 * v + u) = bI (gT (σ r_Md_leads) n D q v u = true) := (mG_v hgc.2).trans (by rw [hgc.1 v u hv.1 hv.2 hu.1 hu.2])
  refine wp_run 7 (pc' := 11) (ls' := [some (.inr (.inr (r_Md, 0))), some (.inl u), some (.inl v)]) (st' := [.inl ((256 * u) + v), .inr (.inr (r_Md_comes, 0))]) (σ' := srl σ []) rfl ?_
  refine wp_bald0 rfl (.inr rfl) (by omega) ?_
  show en_wp k_X12_inOne 12 [some (.inr (.inr (r_Md, 0))), some (.inl u), some (.inl v)] [.inl (σ r_Md_comes ((256 * u) + v))] (srl σ []) _
  refine wp_if_eq rfl (by omega) (fun h_1 => ?_) (fun h_1 => ?_)
  · rw [hv1] at h_1
    have hk9 : bI (gT (σ r_Md_leads) n D q u v = true ∧ gT (σ r_Md_leads) n D q v u = true) = 0 := bI_f (fun g => bI_z h_1 g.1)
    show en_wp k_X12_inOne 34 [some (.inr (.inr (r_Md, 0))), some (.inl u), some (.inl v)] [] (srl σ []) _
    refine wp_run 1 (pc' := 35) (ls' := [some (.inr (.inr (r_Md, 0))), some (.inl u), some (.inl v)]) (st' := [.inl 0]) (σ' := srl σ []) rfl ?_
    exact wp_zret rfl (.inl rfl) ⟨(by rw [hk9]), rfl⟩
  · rw [hv1] at h_1
    have hk1 := bI_nz h_1
    show en_wp k_X12_inOne 15 [some (.inr (.inr (r_Md, 0))), some (.inl u), some (.inl v)] [] (srl σ []) _
    refine wp_run 7 (pc' := 26) (ls' := [some (.inr (.inr (r_Md, 0))), some (.inl u), some (.inl v)]) (st' := [.inl ((256 * v) + u), .inr (.inr (r_Md_comes, 0))]) (σ' := srl σ []) rfl ?_
    refine wp_bald0 rfl (.inr rfl) (by omega) ?_
    show en_wp k_X12_inOne 27 [some (.inr (.inr (r_Md, 0))), some (.inl u), some (.inl v)] [.inl (σ r_Md_comes ((256 * v) + u))] (srl σ []) _
    refine wp_if_eq rfl (by omega) (fun h_2 => ?_) (fun h_2 => ?_)
    · rw [hv2] at h_2
      have hk9 : bI (gT (σ r_Md_leads) n D q u v = true ∧ gT (σ r_Md_leads) n D q v u = true) = 0 := bI_f (fun g => bI_z h_2 g.2)
      show en_wp k_X12_inOne 34 [some (.inr (.inr (r_Md, 0))), some (.inl u), some (.inl v)] [] (srl σ []) _
      refine wp_run 1 (pc' := 35) (ls' := [some (.inr (.inr (r_Md, 0))), some (.inl u), some (.inl v)]) (st' := [.inl 0]) (σ' := srl σ []) rfl ?_
      exact wp_zret rfl (.inl rfl) ⟨(by rw [hk9]), rfl⟩
    · rw [hv2] at h_2
      have hk9 : bI (gT (σ r_Md_leads) n D q u v = true ∧ gT (σ r_Md_leads) n D q v u = true) = 1 := bI_t ⟨hk1, bI_nz h_2⟩
      show en_wp k_X12_inOne 30 [some (.inr (.inr (r_Md, 0))), some (.inl u), some (.inl v)] [] (srl σ []) _
      refine wp_run 2 (pc' := 35) (ls' := [some (.inr (.inr (r_Md, 0))), some (.inl u), some (.inl v)]) (st' := [.inl 1]) (σ' := srl σ []) rfl ?_
      exact wp_zret rfl (.inr rfl) ⟨(by rw [hk9]), rfl⟩
theorem ct_X12_isFirst (σ : en_m) (n : Int) (D : Int) (p : Int) (q : Int) (w : Int) (hI : mI σ n D p) (hw : 0 ≤ w ∧ w < sW n D q) (hgc : (∀ a b, 0 ≤ a → a < sW n D q → 0 ≤ b → b < sW n D q → mG ((σ r_Md_comes)) a b = gT ((σ r_Md_leads)) n D q a b) ∧ R01 ((σ r_Md_comes))) : en_ct z_X12_isFirst [.inr (.inr (r_Md, 0)), .inl w] σ (fun r σ' => ∃ (rr : Int), r = some (.inl rr) ∧ σ' = srl σ [] ∧ ((rr = 1 ∧ fsT (gT ((σ r_Md_leads)) n D q) w) ∨ (rr = 0 ∧ ¬ fsT (gT ((σ r_Md_leads)) n D q) w))) := by
  show en_wp k_X12_isFirst 0 [some (.inr (.inr (r_Md, 0))), some (.inl w), none] [] (srl σ []) (fun r σ' => ∃ (rr : Int), r = some (.inl rr) ∧ σ' = srl σ [] ∧ ((rr = 1 ∧ fsT (gT ((σ r_Md_leads)) n D q) w) ∨ (rr = 0 ∧ ¬ fsT (gT ((σ r_Md_leads)) n D q) w)))
  have hI2 := hI
  obtain ⟨hO, hL, hn, hD, hp, hpw, hst⟩ := hI2
  obtain ⟨⟨hO1, hO2⟩, ⟨hO3, hO4⟩, hO5, hO6, hO7, hO8⟩ := id hO
  have hWq : 0 ≤ sW n D q ∧ sW n D q ≤ 256 := sW_b hO
  have L_12 : ∀ (N : Nat) (v : Int), (0 ≤ v ∧ v ≤ w) → (gT (σ r_Md_leads) n D q w w = true) → (∀ t, 0 ≤ t → t < v → ¬ (gT (σ r_Md_leads) n D q t w = true ∧ gT (σ r_Md_leads) n D q w t = true)) → (w - v).toNat < N → en_wp k_X12_isFirst 12 [some (.inr (.inr (r_Md, 0))), some (.inl w), some (.inl v)] [] (srl σ []) (fun r σ' => ∃ (rr : Int), r = some (.inl rr) ∧ σ' = srl σ [] ∧ ((rr = 1 ∧ fsT (gT ((σ r_Md_leads)) n D q) w) ∨ (rr = 0 ∧ ¬ fsT (gT ((σ r_Md_leads)) n D q) w))) := by
    intro N
    induction N with
    | zero => intro v; intros; omega
    | succ N ih_12 =>
      intro v hv hww hn1 hN_12
      refine wp_run 2 (pc' := 14) (ls' := [some (.inr (.inr (r_Md, 0))), some (.inl w), some (.inl v)]) (st' := [.inl w, .inl v]) (σ' := srl σ []) rfl ?_
      refine wp_ic_ge rfl (by omega) (by omega) (fun h_1 => ?_) (fun h_1 => ?_)
      · show en_wp k_X12_isFirst 34 [some (.inr (.inr (r_Md, 0))), some (.inl w), some (.inl v)] [] (srl σ []) _
        refine wp_run 1 (pc' := 35) (ls' := [some (.inr (.inr (r_Md, 0))), some (.inl w), some (.inl v)]) (st' := [.inl 1]) (σ' := srl σ []) rfl ?_
        exact wp_zret rfl (.inr rfl) ⟨1, rfl, srl_eq (l' := []) trivial trivial, (.inl ⟨rfl, hww, fun t a b => hn1 t a (by omega)⟩)⟩
      · show en_wp k_X12_isFirst 17 [some (.inr (.inr (r_Md, 0))), some (.inl w), some (.inl v)] [] (srl σ []) _
        refine wp_run 3 (pc' := 20) (ls' := [some (.inr (.inr (r_Md, 0))), some (.inl w), some (.inl v)]) (st' := [.inl w, .inl v, .inr (.inr (r_Md, 0))]) (σ' := srl σ []) rfl ?_
        refine wp_fnv (v := .inl (bI (gT ((σ r_Md_leads)) n D q v w = true ∧ gT ((σ r_Md_leads)) n D q w v = true))) rfl rfl rfl rfl (ct_X12_inOne σ n D p q v w hI (by omega) (by omega) hgc) ?_
        show en_wp k_X12_isFirst 23 [some (.inr (.inr (r_Md, 0))), some (.inl w), some (.inl v)] [.inl (bI (gT ((σ r_Md_leads)) n D q v w = true ∧ gT ((σ r_Md_leads)) n D q w v = true))] (srl σ []) _
        refine wp_if_eqb rfl (fun h_2 => ?_) (fun h_2 => ?_)
        · show en_wp k_X12_isFirst 28 [some (.inr (.inr (r_Md, 0))), some (.inl w), some (.inl v)] [] (srl σ []) _
          refine wp_run 2 (pc' := 12) (ls' := [some (.inr (.inr (r_Md, 0))), some (.inl w), some (.inl (v + 1))]) (st' := []) (σ' := srl σ []) rfl ?_
          exact ih_12 (v + 1) (by omega) hww (fun t a b => by rcases Int.lt_or_eq_of_le (show t ≤ v by omega) with h5 | h5 <;> first | exact hn1 t a h5 | (rw [h5]; assumption)) (by omega)
        · show en_wp k_X12_isFirst 26 [some (.inr (.inr (r_Md, 0))), some (.inl w), some (.inl v)] [] (srl σ []) _
          refine wp_run 1 (pc' := 27) (ls' := [some (.inr (.inr (r_Md, 0))), some (.inl w), some (.inl v)]) (st' := [.inl 0]) (σ' := srl σ []) rfl ?_
          exact wp_zret rfl (.inl rfl) ⟨0, rfl, srl_eq (l' := []) trivial trivial, (.inr ⟨rfl, fun g => absurd (by assumption) (g.2 v hv.1 (by omega))⟩)⟩
  refine wp_run 2 (pc' := 2) (ls' := [some (.inr (.inr (r_Md, 0))), some (.inl w), none]) (st' := [.inl w, .inr (.inr (r_Md, 0))]) (σ' := srl σ []) rfl ?_
  refine wp_fnv (v := .inl (bI (gT ((σ r_Md_leads)) n D q w w = true))) rfl rfl rfl rfl (ct_X12_onCircle σ n D p q w hI (by omega) hgc) ?_
  show en_wp k_X12_isFirst 5 [some (.inr (.inr (r_Md, 0))), some (.inl w), none] [.inl (bI (gT ((σ r_Md_leads)) n D q w w = true))] (srl σ []) _
  refine wp_if_neb rfl (fun h_3 => ?_) (fun h_3 => ?_)
  · show en_wp k_X12_isFirst 10 [some (.inr (.inr (r_Md, 0))), some (.inl w), none] [] (srl σ []) _
    refine wp_run 2 (pc' := 12) (ls' := [some (.inr (.inr (r_Md, 0))), some (.inl w), some (.inl 0)]) (st' := []) (σ' := srl σ []) rfl ?_
    exact L_12 _ 0 (by omega) (by assumption) (fun t a b => by omega) (Nat.lt_succ_self _)
  · show en_wp k_X12_isFirst 8 [some (.inr (.inr (r_Md, 0))), some (.inl w), none] [] (srl σ []) _
    refine wp_run 1 (pc' := 9) (ls' := [some (.inr (.inr (r_Md, 0))), some (.inl w), none]) (st' := [.inl 0]) (σ' := srl σ []) rfl ?_
    exact wp_zret rfl (.inl rfl) ⟨0, rfl, srl_eq (l' := []) trivial trivial, (.inr ⟨rfl, fun g => absurd g.1 (by assumption)⟩)⟩
