/-! contracts of methods, walked (written by wip/whole/walk.py from the annotations ann_m9) -/
theorem ct_X12_inverse (σ : en_m) (n : Int) (D : Int) (p : Int) (d : Int) (hI : mI σ n D p) (h1 : i32 d) (hsz : ∀ k, 0 ≤ k → k ≤ D → 0 ≤ (σ r_Md_sizes) k ∧ (σ r_Md_sizes) k ≤ 256) : en_ct z_X12_inverse [.inr (.inr (r_Md, 0)), .inl d] σ (fun r σ' => ∃ (f_Md_series : Int → Int), ∃ (rr : Int), r = some (.inr (.inl rr)) ∧ σ' = srl σ [(r_Md_series, f_Md_series)] ∧ (((0 ≤ d ∧ d ≤ D) ∧ ∃ s, sers ((σ r_Md_sizes)) s d ∧ rr = s d) ∨ (¬ (0 ≤ d ∧ d ≤ D) ∧ rr = -9223372036854775807))) := by
  show en_wp k_X12_inverse 0 [some (.inr (.inr (r_Md, 0))), some (.inl d), none, none] [] (srl σ []) (fun r σ' => ∃ (f_Md_series : Int → Int), ∃ (rr : Int), r = some (.inr (.inl rr)) ∧ σ' = srl σ [(r_Md_series, f_Md_series)] ∧ (((0 ≤ d ∧ d ≤ D) ∧ ∃ s, sers ((σ r_Md_sizes)) s d ∧ rr = s d) ∨ (¬ (0 ≤ d ∧ d ≤ D) ∧ rr = -9223372036854775807)))
  have hI2 := hI
  obtain ⟨hO, hL, hn, hD, hp, hpw, hst⟩ := hI2
  obtain ⟨⟨hO1, hO2⟩, ⟨hO3, hO4⟩, hO5, hO6, hO7, hO8⟩ := id hO
  have L_21 : ∀ (N : Nat) (k : Int) (S : Int → Int), (0 ≤ d ∧ d ≤ D) → (1 ≤ k ∧ k ≤ d + 1) → (S 0 = 1 ∧ ∀ j, 1 ≤ j → j < k → S j = -(sm (fun i => σ r_Md_sizes (i + 1) * S (j - (i + 1))) j.toNat)) → (d + 1 - k).toNat < N → en_wp k_X12_inverse 21 [some (.inr (.inr (r_Md, 0))), some (.inl d), some (.inl k), none] [] (srl σ [(r_Md_series, S)]) (fun r σ' => ∃ (f_Md_series : Int → Int), ∃ (rr : Int), r = some (.inr (.inl rr)) ∧ σ' = srl σ [(r_Md_series, f_Md_series)] ∧ (((0 ≤ d ∧ d ≤ D) ∧ ∃ s, sers ((σ r_Md_sizes)) s d ∧ rr = s d) ∨ (¬ (0 ≤ d ∧ d ≤ D) ∧ rr = -9223372036854775807))) := by
    intro N
    induction N with
    | zero => intro k S; intros; omega
    | succ N ih_21 =>
      intro k S hd hk hS hN_21
      have L_35 : ∀ (N : Nat) (i : Int) (S2 : Int → Int), (k ≤ d) → (1 ≤ i ∧ i ≤ k + 1) → (S2 k = -(sm (fun i => σ r_Md_sizes (i + 1) * S (k - (i + 1))) (i - 1).toNat) ∧ ∀ j, ¬ j = k → S2 j = S j) → (k + 1 - i).toNat < N → en_wp k_X12_inverse 35 [some (.inr (.inr (r_Md, 0))), some (.inl d), some (.inl k), some (.inl i)] [] (srl σ [(r_Md_series, S2)]) (fun r σ' => ∃ (f_Md_series : Int → Int), ∃ (rr : Int), r = some (.inr (.inl rr)) ∧ σ' = srl σ [(r_Md_series, f_Md_series)] ∧ (((0 ≤ d ∧ d ≤ D) ∧ ∃ s, sers ((σ r_Md_sizes)) s d ∧ rr = s d) ∨ (¬ (0 ≤ d ∧ d ≤ D) ∧ rr = -9223372036854775807))) := by
        intro N
        induction N with
        | zero => intro i S2; intros; omega
        | succ N ih_35 =>
          intro i S2 hkd hi hS2 hN_35
          refine wp_run 2 (pc' := 37) (ls' := [some (.inr (.inr (r_Md, 0))), some (.inl d), some (.inl k), some (.inl i)]) (st' := [.inl k, .inl i]) (σ' := srl σ [(r_Md_series, S2)]) rfl ?_
          refine wp_ic_gt rfl (by omega) (by omega) (fun h_1 => ?_) (fun h_1 => ?_)
          · show en_wp k_X12_inverse 71 [some (.inr (.inr (r_Md, 0))), some (.inl d), some (.inl k), some (.inl i)] [] (srl σ [(r_Md_series, S2)]) _
            refine wp_run 2 (pc' := 21) (ls' := [some (.inr (.inr (r_Md, 0))), some (.inl d), some (.inl (k + 1)), some (.inl i)]) (st' := []) (σ' := srl σ [(r_Md_series, S2)]) rfl ?_
            refine wp_sub (l := [some (.inr (.inr (r_Md, 0))), some (.inl d), some (.inl (k + 1)), none]) (And.intro rfl (And.intro rfl (And.intro rfl trivial))) ?_
            exact ih_21 (k + 1) S2 (by omega) (by omega) (sers_step hk.1 hS (by rw [hS2.1, show i - 1 = k by omega]) hS2.2) (by omega)
          · show en_wp k_X12_inverse 40 [some (.inr (.inr (r_Md, 0))), some (.inl d), some (.inl k), some (.inl i)] [] (srl σ [(r_Md_series, S2)]) _
            refine wp_run 4 (pc' := 46) (ls' := [some (.inr (.inr (r_Md, 0))), some (.inl d), some (.inl k), some (.inl i)]) (st' := [.inl k, .inr (.inr (r_Md_series, 0)), .inl k, .inr (.inr (r_Md_series, 0))]) (σ' := srl σ [(r_Md_series, S2)]) rfl ?_
            refine wp_lald0 rfl rfl (by omega) ?_
            show en_wp k_X12_inverse 47 [some (.inr (.inr (r_Md, 0))), some (.inl d), some (.inl k), some (.inl i)] [.inr (.inl (S2 k)), .inl k, .inr (.inr (r_Md_series, 0))] (srl σ [(r_Md_series, S2)]) _
            refine wp_run 3 (pc' := 52) (ls' := [some (.inr (.inr (r_Md, 0))), some (.inl d), some (.inl k), some (.inl i)]) (st' := [.inl i, .inr (.inr (r_Md_sizes, 0)), .inr (.inl (S2 k)), .inl k, .inr (.inr (r_Md_series, 0))]) (σ' := srl σ [(r_Md_series, S2)]) rfl ?_
            refine wp_iald0 rfl rfl (by omega) ?_
            show en_wp k_X12_inverse 53 [some (.inr (.inr (r_Md, 0))), some (.inl d), some (.inl k), some (.inl i)] [.inl (σ r_Md_sizes i), .inr (.inl (S2 k)), .inl k, .inr (.inr (r_Md_series, 0))] (srl σ [(r_Md_series, S2)]) _
            have hz := hsz i (by omega) (by omega)
            refine wp_i2l rfl (by omega) ?_
            show en_wp k_X12_inverse 54 [some (.inr (.inr (r_Md, 0))), some (.inl d), some (.inl k), some (.inl i)] [.inr (.inl (σ r_Md_sizes i)), .inr (.inl (S2 k)), .inl k, .inr (.inr (r_Md_series, 0))] (srl σ [(r_Md_series, S2)]) _
            refine wp_run 5 (pc' := 61) (ls' := [some (.inr (.inr (r_Md, 0))), some (.inl d), some (.inl k), some (.inl i)]) (st' := [.inl (k - i), .inr (.inr (r_Md_series, 0)), .inr (.inl (σ r_Md_sizes i)), .inr (.inl (S2 k)), .inl k, .inr (.inr (r_Md_series, 0))]) (σ' := srl σ [(r_Md_series, S2)]) rfl ?_
            refine wp_lald0 rfl rfl (by omega) ?_
            show en_wp k_X12_inverse 62 [some (.inr (.inr (r_Md, 0))), some (.inl d), some (.inl k), some (.inl i)] [.inr (.inl (S2 (k - i))), .inr (.inl (σ r_Md_sizes i)), .inr (.inl (S2 k)), .inl k, .inr (.inr (r_Md_series, 0))] (srl σ [(r_Md_series, S2)]) _
            refine wp_run 2 (pc' := 64) (ls' := [some (.inr (.inr (r_Md, 0))), some (.inl d), some (.inl k), some (.inl i)]) (st' := [.inr (.inl ((S2 k) - ((σ r_Md_sizes i) * (S2 (k - i))))), .inl k, .inr (.inr (r_Md_series, 0))]) (σ' := srl σ [(r_Md_series, S2)]) rfl ?_
            refine wp_last0 rfl rfl (by omega) (wp_wr (l2 := [(r_Md_series, (up S2 k ((S2 k) - ((σ r_Md_sizes i) * (S2 (k - i))))))]) rfl ?_)
            show en_wp k_X12_inverse 65 [some (.inr (.inr (r_Md, 0))), some (.inl d), some (.inl k), some (.inl i)] [] (srl σ [(r_Md_series, (up S2 k ((S2 k) - ((σ r_Md_sizes i) * (S2 (k - i))))))]) _
            refine wp_run 2 (pc' := 35) (ls' := [some (.inr (.inr (r_Md, 0))), some (.inl d), some (.inl k), some (.inl (i + 1))]) (st' := []) (σ' := srl σ [(r_Md_series, (up S2 k ((S2 k) - ((σ r_Md_sizes i) * (S2 (k - i))))))]) rfl ?_
            exact ih_35 (i + 1) (up S2 k ((S2 k) - ((σ r_Md_sizes i) * (S2 (k - i))))) (by omega) (by omega) ⟨by rw [up_eq, hS2.1, hS2.2 (k - i) (by omega), show i + 1 - 1 = i by omega, show i.toNat = (i - 1).toNat + 1 by omega]; show _ = -(sm _ (i - 1).toNat + σ r_Md_sizes ((((i - 1).toNat : Nat) : Int) + 1) * S (k - ((((i - 1).toNat : Nat) : Int) + 1))); rw [show (((i - 1).toNat : Nat) : Int) + 1 = i by omega]; omega, fun j h => by rw [up_ne h]; exact hS2.2 j h⟩ (by omega)
      refine wp_run 2 (pc' := 23) (ls' := [some (.inr (.inr (r_Md, 0))), some (.inl d), some (.inl k), none]) (st' := [.inl d, .inl k]) (σ' := srl σ [(r_Md_series, S)]) rfl ?_
      refine wp_ic_gt rfl (by omega) (by omega) (fun h_2 => ?_) (fun h_2 => ?_)
      · show en_wp k_X12_inverse 77 [some (.inr (.inr (r_Md, 0))), some (.inl d), some (.inl k), none] [] (srl σ [(r_Md_series, S)]) _
        refine wp_run 3 (pc' := 82) (ls' := [some (.inr (.inr (r_Md, 0))), some (.inl d), some (.inl k), none]) (st' := [.inl d, .inr (.inr (r_Md_series, 0))]) (σ' := srl σ [(r_Md_series, S)]) rfl ?_
        refine wp_lald0 rfl rfl (by omega) ?_
        show en_wp k_X12_inverse 83 [some (.inr (.inr (r_Md, 0))), some (.inl d), some (.inl k), none] [.inr (.inl (S d))] (srl σ [(r_Md_series, S)]) _
        exact wp_lret rfl ⟨S, (S d), rfl, srl_eq (l' := [(r_Md_series, S)]) (And.intro rfl trivial) (And.intro rfl trivial), (.inl ⟨hd, S, ⟨hS.1, fun j h8 h9 => hS.2 j h8 (by omega)⟩, rfl⟩)⟩
      · show en_wp k_X12_inverse 26 [some (.inr (.inr (r_Md, 0))), some (.inl d), some (.inl k), none] [] (srl σ [(r_Md_series, S)]) _
        refine wp_run 4 (pc' := 32) (ls' := [some (.inr (.inr (r_Md, 0))), some (.inl d), some (.inl k), none]) (st' := [.inr (.inl 0), .inl k, .inr (.inr (r_Md_series, 0))]) (σ' := srl σ [(r_Md_series, S)]) rfl ?_
        refine wp_last0 rfl rfl (by omega) (wp_wr (l2 := [(r_Md_series, (up S k 0))]) rfl ?_)
        show en_wp k_X12_inverse 33 [some (.inr (.inr (r_Md, 0))), some (.inl d), some (.inl k), none] [] (srl σ [(r_Md_series, (up S k 0))]) _
        refine wp_run 2 (pc' := 35) (ls' := [some (.inr (.inr (r_Md, 0))), some (.inl d), some (.inl k), some (.inl 1)]) (st' := []) (σ' := srl σ [(r_Md_series, (up S k 0))]) rfl ?_
        exact L_35 _ 1 (up S k 0) (by omega) (by omega) ⟨by rw [up_eq]; rfl, fun j h => up_ne h⟩ (Nat.lt_succ_self _)
  refine wp_run 2 (pc' := 2) (ls' := [some (.inr (.inr (r_Md, 0))), some (.inl d), none, none]) (st' := [.inl d, .inr (.inr (r_Md, 0))]) (σ' := srl σ []) rfl ?_
  refine wp_fnv (v := .inl (bI (0 ≤ d ∧ d ≤ D))) rfl rfl rfl rfl (ct_X12_isDegree σ n D p d hI (by omega)) ?_
  show en_wp k_X12_inverse 5 [some (.inr (.inr (r_Md, 0))), some (.inl d), none, none] [.inl (bI (0 ≤ d ∧ d ≤ D))] (srl σ []) _
  refine wp_if_neb rfl (fun h_3 => ?_) (fun h_3 => ?_)
  · show en_wp k_X12_inverse 12 [some (.inr (.inr (r_Md, 0))), some (.inl d), none, none] [] (srl σ []) _
    refine wp_run 4 (pc' := 18) (ls' := [some (.inr (.inr (r_Md, 0))), some (.inl d), none, none]) (st' := [.inr (.inl 1), .inl 0, .inr (.inr (r_Md_series, 0))]) (σ' := srl σ []) rfl ?_
    refine wp_last0 rfl rfl (by omega) (wp_wr (l2 := [(r_Md_series, (up (σ r_Md_series) 0 1))]) rfl ?_)
    show en_wp k_X12_inverse 19 [some (.inr (.inr (r_Md, 0))), some (.inl d), none, none] [] (srl σ [(r_Md_series, (up (σ r_Md_series) 0 1))]) _
    refine wp_run 2 (pc' := 21) (ls' := [some (.inr (.inr (r_Md, 0))), some (.inl d), some (.inl 1), none]) (st' := []) (σ' := srl σ [(r_Md_series, (up (σ r_Md_series) 0 1))]) rfl ?_
    exact L_21 _ 1 (up (σ r_Md_series) 0 1) (by omega) (by omega) ⟨up_eq _ _ _, fun j h8 h9 => by omega⟩ (Nat.lt_succ_self _)
  · show en_wp k_X12_inverse 8 [some (.inr (.inr (r_Md, 0))), some (.inl d), none, none] [] (srl σ []) _
    refine wp_run 1 (pc' := 11) (ls' := [some (.inr (.inr (r_Md, 0))), some (.inl d), none, none]) (st' := [.inr (.inl (-9223372036854775807))]) (σ' := srl σ []) rfl ?_
    exact wp_lret rfl ⟨(σ r_Md_series), (-9223372036854775807), rfl, srl_eq (l' := [(r_Md_series, σ r_Md_series)]) trivial (And.intro rfl trivial), (.inr ⟨by omega, rfl⟩)⟩
theorem ct_X12_bent (σ : en_m) (n : Int) (D : Int) (p : Int) (hI : mI σ n D p) (hsz : ∀ k, 0 ≤ k → k ≤ D → 0 ≤ (σ r_Md_sizes) k ∧ (σ r_Md_sizes) k ≤ 256) (hsz9 : ∀ k, 0 ≤ k → k ≤ D → 0 ≤ (σ r_Md_sizes) (9 + k) ∧ (σ r_Md_sizes) (9 + k) ≤ 256 ∨ (σ r_Md_quadratic) 0 = 0) (hqd : (σ r_Md_quadratic) 0 = 0 ∨ (σ r_Md_quadratic) 0 = 1) : en_ct z_X12_bent [.inr (.inr (r_Md, 0))] σ (fun r σ' => ∃ (rr : Int), r = some (.inl rr) ∧ σ' = srl σ [] ∧ (((σ r_Md_quadratic) 0 = 0 ∧ rr = -3) ∨ (¬ (σ r_Md_quadratic) 0 = 0 ∧ ((rr = -2 ∧ ∀ d, 1 ≤ d → d ≤ D → bT ((σ r_Md_sizes)) (fun j => (σ r_Md_sizes) (9 + j)) d = 0) ∨ ((1 ≤ rr ∧ rr ≤ D) ∧ ¬ bT ((σ r_Md_sizes)) (fun j => (σ r_Md_sizes) (9 + j)) rr = 0 ∧ ∀ d, 1 ≤ d → d < rr → bT ((σ r_Md_sizes)) (fun j => (σ r_Md_sizes) (9 + j)) d = 0))))) := by
  show en_wp k_X12_bent 0 [some (.inr (.inr (r_Md, 0))), none, none, none, none, none, none] [] (srl σ []) (fun r σ' => ∃ (rr : Int), r = some (.inl rr) ∧ σ' = srl σ [] ∧ (((σ r_Md_quadratic) 0 = 0 ∧ rr = -3) ∨ (¬ (σ r_Md_quadratic) 0 = 0 ∧ ((rr = -2 ∧ ∀ d, 1 ≤ d → d ≤ D → bT ((σ r_Md_sizes)) (fun j => (σ r_Md_sizes) (9 + j)) d = 0) ∨ ((1 ≤ rr ∧ rr ≤ D) ∧ ¬ bT ((σ r_Md_sizes)) (fun j => (σ r_Md_sizes) (9 + j)) rr = 0 ∧ ∀ d, 1 ≤ d → d < rr → bT ((σ r_Md_sizes)) (fun j => (σ r_Md_sizes) (9 + j)) d = 0)))))
  have hI2 := hI
  obtain ⟨hO, hL, hn, hD, hp, hpw, hst⟩ := hI2
  obtain ⟨⟨hO1, hO2⟩, ⟨hO3, hO4⟩, hO5, hO6, hO7, hO8⟩ := id hO
  have L_12 : ∀ (N : Nat) (d : Int), (¬ σ r_Md_quadratic 0 = 0) → (1 ≤ d ∧ d ≤ D + 1) → (∀ j, 1 ≤ j → j < d → bT (σ r_Md_sizes) (fun j => σ r_Md_sizes (9 + j)) j = 0) → (D + 1 - d).toNat < N → en_wp k_X12_bent 12 [some (.inr (.inr (r_Md, 0))), some (.inl d), none, none, none, none, none] [] (srl σ []) (fun r σ' => ∃ (rr : Int), r = some (.inl rr) ∧ σ' = srl σ [] ∧ (((σ r_Md_quadratic) 0 = 0 ∧ rr = -3) ∨ (¬ (σ r_Md_quadratic) 0 = 0 ∧ ((rr = -2 ∧ ∀ d, 1 ≤ d → d ≤ D → bT ((σ r_Md_sizes)) (fun j => (σ r_Md_sizes) (9 + j)) d = 0) ∨ ((1 ≤ rr ∧ rr ≤ D) ∧ ¬ bT ((σ r_Md_sizes)) (fun j => (σ r_Md_sizes) (9 + j)) rr = 0 ∧ ∀ d, 1 ≤ d → d < rr → bT ((σ r_Md_sizes)) (fun j => (σ r_Md_sizes) (9 + j)) d = 0))))) := by
    intro N
    induction N with
    | zero => intro d; intros; omega
    | succ N ih_12 =>
      intro d hqn hd hb hN_12
      have L_30 : ∀ (N : Nat) (s : Int) (j : Int), (d ≤ D) → (0 ≤ j ∧ j ≤ d + 1) → (s = sm (fun j => if j % 2 = 0 then σ r_Md_sizes (d - j) * σ r_Md_sizes (9 + j) else -(σ r_Md_sizes (d - j) * σ r_Md_sizes (9 + j))) j.toNat ∧ -65536 * j ≤ s ∧ s ≤ 65536 * j) → (d + 1 - j).toNat < N → en_wp k_X12_bent 30 [some (.inr (.inr (r_Md, 0))), some (.inl d), some (.inr (.inl s)), none, some (.inl j), none, none] [] (srl σ []) (fun r σ' => ∃ (rr : Int), r = some (.inl rr) ∧ σ' = srl σ [] ∧ (((σ r_Md_quadratic) 0 = 0 ∧ rr = -3) ∨ (¬ (σ r_Md_quadratic) 0 = 0 ∧ ((rr = -2 ∧ ∀ d, 1 ≤ d → d ≤ D → bT ((σ r_Md_sizes)) (fun j => (σ r_Md_sizes) (9 + j)) d = 0) ∨ ((1 ≤ rr ∧ rr ≤ D) ∧ ¬ bT ((σ r_Md_sizes)) (fun j => (σ r_Md_sizes) (9 + j)) rr = 0 ∧ ∀ d, 1 ≤ d → d < rr → bT ((σ r_Md_sizes)) (fun j => (σ r_Md_sizes) (9 + j)) d = 0))))) := by
        intro N
        induction N with
        | zero => intro s j; intros; omega
        | succ N ih_30 =>
          intro s j hdD hj hs hN_30
          refine wp_run 2 (pc' := 33) (ls' := [some (.inr (.inr (r_Md, 0))), some (.inl d), some (.inr (.inl s)), none, some (.inl j), none, none]) (st' := [.inl d, .inl j]) (σ' := srl σ []) rfl ?_
          refine wp_ic_gt rfl (by omega) (by omega) (fun h_1 => ?_) (fun h_1 => ?_)
          · show en_wp k_X12_bent 84 [some (.inr (.inr (r_Md, 0))), some (.inl d), some (.inr (.inl s)), none, some (.inl j), none, none] [] (srl σ []) _
            refine wp_run 2 (pc' := 86) (ls' := [some (.inr (.inr (r_Md, 0))), some (.inl d), some (.inr (.inl s)), none, some (.inl j), none, none]) (st' := [.inr (.inl 0), .inr (.inl s)]) (σ' := srl σ []) rfl ?_
            refine wp_lc_eq rfl (by omega) (by omega) rfl (fun h_2 => ?_) (fun h_2 => ?_)
            · show en_wp k_X12_bent 92 [some (.inr (.inr (r_Md, 0))), some (.inl d), some (.inr (.inl s)), none, some (.inl j), none, none] [] (srl σ []) _
              refine wp_run 2 (pc' := 12) (ls' := [some (.inr (.inr (r_Md, 0))), some (.inl (d + 1)), some (.inr (.inl s)), none, some (.inl j), none, none]) (st' := []) (σ' := srl σ []) rfl ?_
              refine wp_sub (l := [some (.inr (.inr (r_Md, 0))), some (.inl (d + 1)), none, none, none, none, none]) (And.intro rfl (And.intro rfl trivial)) ?_
              exact ih_12 (d + 1) hqn (by omega) (fun i h8 h9 => by rcases Int.lt_or_eq_of_le (show i ≤ d by omega) with h5 | h5 <;> first | exact hb i h8 h5 | (rw [h5]; show sm (fun j => if j % 2 = 0 then σ r_Md_sizes (d - j) * σ r_Md_sizes (9 + j) else -(σ r_Md_sizes (d - j) * σ r_Md_sizes (9 + j))) (d + 1).toNat = 0; rw [show d + 1 = j by omega, ← hs.1]; assumption)) (by omega)
            · show en_wp k_X12_bent 90 [some (.inr (.inr (r_Md, 0))), some (.inl d), some (.inr (.inl s)), none, some (.inl j), none, none] [] (srl σ []) _
              refine wp_run 1 (pc' := 91) (ls' := [some (.inr (.inr (r_Md, 0))), some (.inl d), some (.inr (.inl s)), none, some (.inl j), none, none]) (st' := [.inl d]) (σ' := srl σ []) rfl ?_
              exact wp_iret rfl ⟨d, rfl, srl_eq (l' := []) trivial trivial, (.inr ⟨hqn, .inr ⟨by omega, by show ¬ sm (fun j => if j % 2 = 0 then σ r_Md_sizes (d - j) * σ r_Md_sizes (9 + j) else -(σ r_Md_sizes (d - j) * σ r_Md_sizes (9 + j))) (d + 1).toNat = 0; rw [show d + 1 = j by omega, ← hs.1]; assumption, hb⟩⟩)⟩
          · show en_wp k_X12_bent 36 [some (.inr (.inr (r_Md, 0))), some (.inl d), some (.inr (.inl s)), none, some (.inl j), none, none] [] (srl σ []) _
            refine wp_run 5 (pc' := 44) (ls' := [some (.inr (.inr (r_Md, 0))), some (.inl d), some (.inr (.inl s)), none, some (.inl j), none, none]) (st' := [.inl (d - j), .inr (.inr (r_Md_sizes, 0))]) (σ' := srl σ []) rfl ?_
            refine wp_iald0 rfl rfl (by omega) ?_
            show en_wp k_X12_bent 45 [some (.inr (.inr (r_Md, 0))), some (.inl d), some (.inr (.inl s)), none, some (.inl j), none, none] [.inl (σ r_Md_sizes (d - j))] (srl σ []) _
            have hz1 := hsz (d - j) (by omega) (by omega)
            refine wp_i2l rfl (by omega) ?_
            show en_wp k_X12_bent 46 [some (.inr (.inr (r_Md, 0))), some (.inl d), some (.inr (.inl s)), none, some (.inl j), none, none] [.inr (.inl (σ r_Md_sizes (d - j)))] (srl σ []) _
            refine wp_run 5 (pc' := 55) (ls' := [some (.inr (.inr (r_Md, 0))), some (.inl d), some (.inr (.inl s)), none, some (.inl j), none, none]) (st' := [.inl (9 + j), .inr (.inr (r_Md_sizes, 0)), .inr (.inl (σ r_Md_sizes (d - j)))]) (σ' := srl σ []) rfl ?_
            refine wp_iald0 rfl rfl (by omega) ?_
            show en_wp k_X12_bent 56 [some (.inr (.inr (r_Md, 0))), some (.inl d), some (.inr (.inl s)), none, some (.inl j), none, none] [.inl (σ r_Md_sizes (9 + j)), .inr (.inl (σ r_Md_sizes (d - j)))] (srl σ []) _
            have hz2 : 0 ≤ σ r_Md_sizes (9 + j) ∧ σ r_Md_sizes (9 + j) ≤ 256 := by rcases hsz9 j (by omega) (by omega) with h | h; exact h; exact absurd h hqn
            refine wp_i2l rfl (by omega) ?_
            show en_wp k_X12_bent 57 [some (.inr (.inr (r_Md, 0))), some (.inl d), some (.inr (.inl s)), none, some (.inl j), none, none] [.inr (.inl (σ r_Md_sizes (9 + j))), .inr (.inl (σ r_Md_sizes (d - j)))] (srl σ []) _
            refine wp_run 5 (pc' := 64) (ls' := [some (.inr (.inr (r_Md, 0))), some (.inl d), some (.inr (.inl s)), none, some (.inl j), some (.inr (.inl ((σ r_Md_sizes (d - j)) * (σ r_Md_sizes (9 + j))))), none]) (st' := [.inl 2, .inl j, .inr (.inl s)]) (σ' := srl σ []) rfl ?_
            have hmz := m256 hz1 hz2
            refine wp_iremp rfl (by omega) (by omega) ?_
            show en_wp k_X12_bent 65 [some (.inr (.inr (r_Md, 0))), some (.inl d), some (.inr (.inl s)), none, some (.inl j), some (.inr (.inl ((σ r_Md_sizes (d - j)) * (σ r_Md_sizes (9 + j))))), none] [.inl (j % 2), .inr (.inl s)] (srl σ []) _
            refine wp_if_ne rfl (by omega) (fun h_3 => ?_) (fun h_3 => ?_)
            · show en_wp k_X12_bent 73 [some (.inr (.inr (r_Md, 0))), some (.inl d), some (.inr (.inl s)), none, some (.inl j), some (.inr (.inl ((σ r_Md_sizes (d - j)) * (σ r_Md_sizes (9 + j))))), none] [.inr (.inl s)] (srl σ []) _
              refine wp_run 6 (pc' := 30) (ls' := [some (.inr (.inr (r_Md, 0))), some (.inl d), some (.inr (.inl (s + (-((σ r_Md_sizes (d - j)) * (σ r_Md_sizes (9 + j))))))), none, some (.inl (j + 1)), some (.inr (.inl ((σ r_Md_sizes (d - j)) * (σ r_Md_sizes (9 + j))))), none]) (st' := []) (σ' := srl σ []) rfl ?_
              refine wp_sub (l := [some (.inr (.inr (r_Md, 0))), some (.inl d), some (.inr (.inl (s + (-((σ r_Md_sizes (d - j)) * (σ r_Md_sizes (9 + j))))))), none, some (.inl (j + 1)), none, none]) (And.intro rfl (And.intro rfl (And.intro rfl (And.intro rfl trivial)))) ?_
              exact ih_30 (s + (-((σ r_Md_sizes (d - j)) * (σ r_Md_sizes (9 + j))))) (j + 1) (by omega) (by omega) ⟨by rw [hs.1, sm_s _ hj.1]; first | rw [if_pos (by assumption)] | rw [if_neg (by assumption)], by omega, by omega⟩ (by omega)
            · show en_wp k_X12_bent 68 [some (.inr (.inr (r_Md, 0))), some (.inl d), some (.inr (.inl s)), none, some (.inl j), some (.inr (.inl ((σ r_Md_sizes (d - j)) * (σ r_Md_sizes (9 + j))))), none] [.inr (.inl s)] (srl σ []) _
              refine wp_run 6 (pc' := 30) (ls' := [some (.inr (.inr (r_Md, 0))), some (.inl d), some (.inr (.inl (s + ((σ r_Md_sizes (d - j)) * (σ r_Md_sizes (9 + j)))))), none, some (.inl (j + 1)), some (.inr (.inl ((σ r_Md_sizes (d - j)) * (σ r_Md_sizes (9 + j))))), none]) (st' := []) (σ' := srl σ []) rfl ?_
              refine wp_sub (l := [some (.inr (.inr (r_Md, 0))), some (.inl d), some (.inr (.inl (s + ((σ r_Md_sizes (d - j)) * (σ r_Md_sizes (9 + j)))))), none, some (.inl (j + 1)), none, none]) (And.intro rfl (And.intro rfl (And.intro rfl (And.intro rfl trivial)))) ?_
              exact ih_30 (s + ((σ r_Md_sizes (d - j)) * (σ r_Md_sizes (9 + j)))) (j + 1) (by omega) (by omega) ⟨by rw [hs.1, sm_s _ hj.1]; first | rw [if_pos (by assumption)] | rw [if_neg (by assumption)], by omega, by omega⟩ (by omega)
      refine wp_run 5 (pc' := 21) (ls' := [some (.inr (.inr (r_Md, 0))), some (.inl d), none, none, none, none, none]) (st' := [.inl (σ r_Md_live 0), .inr (.inr (r_Md_degree, 0)), .inl d]) (σ' := srl σ []) rfl ?_
      refine wp_iald0 rfl rfl (by omega) ?_
      show en_wp k_X12_bent 22 [some (.inr (.inr (r_Md, 0))), some (.inl d), none, none, none, none, none] [.inl (σ r_Md_degree (σ r_Md_live 0)), .inl d] (srl σ []) _
      rw [hD]
      show en_wp k_X12_bent 22 [some (.inr (.inr (r_Md, 0))), some (.inl d), none, none, none, none, none] [.inl D, .inl d] (srl σ []) _
      refine wp_ic_gt rfl (by omega) (by omega) (fun h_4 => ?_) (fun h_4 => ?_)
      · show en_wp k_X12_bent 98 [some (.inr (.inr (r_Md, 0))), some (.inl d), none, none, none, none, none] [] (srl σ []) _
        refine wp_run 1 (pc' := 100) (ls' := [some (.inr (.inr (r_Md, 0))), some (.inl d), none, none, none, none, none]) (st' := [.inl (-2)]) (σ' := srl σ []) rfl ?_
        exact wp_iret rfl ⟨(-2), rfl, srl_eq (l' := []) trivial trivial, (.inr ⟨hqn, .inl ⟨rfl, fun j h8 h9 => hb j h8 (by omega)⟩⟩)⟩
      · show en_wp k_X12_bent 25 [some (.inr (.inr (r_Md, 0))), some (.inl d), none, none, none, none, none] [] (srl σ []) _
        refine wp_run 4 (pc' := 30) (ls' := [some (.inr (.inr (r_Md, 0))), some (.inl d), some (.inr (.inl 0)), none, some (.inl 0), none, none]) (st' := []) (σ' := srl σ []) rfl ?_
        exact L_30 _ 0 0 (by omega) (by omega) ⟨rfl, by omega, by omega⟩ (Nat.lt_succ_self _)
  refine wp_run 2 (pc' := 4) (ls' := [some (.inr (.inr (r_Md, 0))), none, none, none, none, none, none]) (st' := [.inl (σ r_Md_quadratic 0)]) (σ' := srl σ []) rfl ?_
  refine wp_if_ne rfl (by omega) (fun h_5 => ?_) (fun h_5 => ?_)
  · show en_wp k_X12_bent 10 [some (.inr (.inr (r_Md, 0))), none, none, none, none, none, none] [] (srl σ []) _
    refine wp_run 2 (pc' := 12) (ls' := [some (.inr (.inr (r_Md, 0))), some (.inl 1), none, none, none, none, none]) (st' := []) (σ' := srl σ []) rfl ?_
    exact L_12 _ 1 (by assumption) (by omega) (fun j h8 h9 => by omega) (Nat.lt_succ_self _)
  · show en_wp k_X12_bent 7 [some (.inr (.inr (r_Md, 0))), none, none, none, none, none, none] [] (srl σ []) _
    refine wp_run 1 (pc' := 9) (ls' := [some (.inr (.inr (r_Md, 0))), none, none, none, none, none, none]) (st' := [.inl (-3)]) (σ' := srl σ []) rfl ?_
    exact wp_iret rfl ⟨(-3), rfl, srl_eq (l' := []) trivial trivial, (.inl ⟨by omega, rfl⟩)⟩
set_option maxRecDepth 8000 in
theorem ct_X12_count (σ : en_m) (n : Int) (D : Int) (p : Int) (w : Int) (hI : mI σ n D p) (h1 : i32 w) (hm : 0 ≤ ((σ r_Md_laws) ((σ r_Md_live) 0)) ∧ ((σ r_Md_laws) ((σ r_Md_live) 0)) ≤ 8) (hll : ∀ i, i32 ((σ r_Md_lawLength) i)) (hlead : R01 ((σ r_Md_leads))) (hih : R01 ((σ r_Md_isHeld))) : en_fn z_X12_count [.inr (.inr (r_Md, 0)), .inl w] σ (.inl (if w = 0 then p else if w = 1 then n else if w = 2 then D else if w = 3 then ((σ r_Md_laws) ((σ r_Md_live) 0)) else if w = 4 then sm (fun k => if (σ r_Md_lawLength) (8 * (σ r_Md_live) 0 + k) = 0 then 1 else 0) ((σ r_Md_laws) ((σ r_Md_live) 0)).toNat else if w = 5 then (σ r_Md_taped) 0 else if w = 6 then (σ r_Md_isHeld) 0 + (σ r_Md_isHeld) 1 + (σ r_Md_isHeld) 2 else if w = 7 then sm (fun d => cB ((σ r_Md_leads)) n D (d + 1)) (D).toNat else if 0 ≤ w - 10 ∧ w - 10 ≤ ((σ r_Md_laws) ((σ r_Md_live) 0)) - 1 then (σ r_Md_lawLength) (8 * (σ r_Md_live) 0 + w - 10) else -1)) := by
  show en_wp k_X12_count 0 [some (.inr (.inr (r_Md, 0))), some (.inl w), none, none] [] (srl σ []) (fun r σ' => r = some (.inl (if w = 0 then p else if w = 1 then n else if w = 2 then D else if w = 3 then ((σ r_Md_laws) ((σ r_Md_live) 0)) else if w = 4 then sm (fun k => if (σ r_Md_lawLength) (8 * (σ r_Md_live) 0 + k) = 0 then 1 else 0) ((σ r_Md_laws) ((σ r_Md_live) 0)).toNat else if w = 5 then (σ r_Md_taped) 0 else if w = 6 then (σ r_Md_isHeld) 0 + (σ r_Md_isHeld) 1 + (σ r_Md_isHeld) 2 else if w = 7 then sm (fun d => cB ((σ r_Md_leads)) n D (d + 1)) (D).toNat else if 0 ≤ w - 10 ∧ w - 10 ≤ ((σ r_Md_laws) ((σ r_Md_live) 0)) - 1 then (σ r_Md_lawLength) (8 * (σ r_Md_live) 0 + w - 10) else -1)) ∧ σ' = σ)
  have hI2 := hI
  obtain ⟨hO, hL, hn, hD, hp, hpw, hst⟩ := hI2
  obtain ⟨⟨hO1, hO2⟩, ⟨hO3, hO4⟩, hO5, hO6, hO7, hO8⟩ := id hO
  have L_187 : ∀ (N : Nat) (c : Int) (d : Int), (w = 7) → (1 ≤ d ∧ d ≤ D + 1) → (c = sm (fun d => cB (σ r_Md_leads) n D (d + 1)) (d - 1).toNat) → (D + 1 - d).toNat < N → en_wp k_X12_count 187 [some (.inr (.inr (r_Md, 0))), some (.inl w), some (.inl c), some (.inl d)] [] (srl σ []) (fun r σ' => r = some (.inl (if w = 0 then p else if w = 1 then n else if w = 2 then D else if w = 3 then ((σ r_Md_laws) ((σ r_Md_live) 0)) else if w = 4 then sm (fun k => if (σ r_Md_lawLength) (8 * (σ r_Md_live) 0 + k) = 0 then 1 else 0) ((σ r_Md_laws) ((σ r_Md_live) 0)).toNat else if w = 5 then (σ r_Md_taped) 0 else if w = 6 then (σ r_Md_isHeld) 0 + (σ r_Md_isHeld) 1 + (σ r_Md_isHeld) 2 else if w = 7 then sm (fun d => cB ((σ r_Md_leads)) n D (d + 1)) (D).toNat else if 0 ≤ w - 10 ∧ w - 10 ≤ ((σ r_Md_laws) ((σ r_Md_live) 0)) - 1 then (σ r_Md_lawLength) (8 * (σ r_Md_live) 0 + w - 10) else -1)) ∧ σ' = σ) := by
    intro N
    induction N with
    | zero => intro c d; intros; omega
    | succ N ih_187 =>
      intro c d hw7 hd hc hN_187
      refine wp_run 5 (pc' := 196) (ls' := [some (.inr (.inr (r_Md, 0))), some (.inl w), some (.inl c), some (.inl d)]) (st' := [.inl (σ r_Md_live 0), .inr (.inr (r_Md_degree, 0)), .inl d]) (σ' := srl σ []) rfl ?_
      refine wp_iald0 rfl rfl (by omega) ?_
      show en_wp k_X12_count 197 [some (.inr (.inr (r_Md, 0))), some (.inl w), some (.inl c), some (.inl d)] [.inl (σ r_Md_degree (σ r_Md_live 0)), .inl d] (srl σ []) _
      rw [hD]
      show en_wp k_X12_count 197 [some (.inr (.inr (r_Md, 0))), some (.inl w), some (.inl c), some (.inl d)] [.inl D, .inl d] (srl σ []) _
      refine wp_ic_gt rfl (by omega) (by omega) (fun h_1 => ?_) (fun h_1 => ?_)
      · show en_wp k_X12_count 214 [some (.inr (.inr (r_Md, 0))), some (.inl w), some (.inl c), some (.inl d)] [] (srl σ []) _
        refine wp_run 1 (pc' := 215) (ls' := [some (.inr (.inr (r_Md, 0))), some (.inl w), some (.inl c), some (.inl d)]) (st' := [.inl c]) (σ' := srl σ []) rfl ?_
        exact wp_iret rfl ⟨(by rw [hw7, hc, show d - 1 = D by omega]; rfl), rfl⟩
      · show en_wp k_X12_count 200 [some (.inr (.inr (r_Md, 0))), some (.inl w), some (.inl c), some (.inl d)] [] (srl σ []) _
        refine wp_run 3 (pc' := 203) (ls' := [some (.inr (.inr (r_Md, 0))), some (.inl w), some (.inl c), some (.inl d)]) (st' := [.inl d, .inr (.inr (r_Md, 0)), .inl c]) (σ' := srl σ []) rfl ?_
        refine wp_fnv (v := .inl (cB ((σ r_Md_leads)) n D d)) rfl rfl rfl rfl (ct_X12_baseOf σ n D p d hI (by omega) hlead) ?_
        show en_wp k_X12_count 206 [some (.inr (.inr (r_Md, 0))), some (.inl w), some (.inl c), some (.inl d)] [.inl (cB ((σ r_Md_leads)) n D d), .inl c] (srl σ []) _
        have q_2 : 0 ≤ cB ((σ r_Md_leads)) n D d ∧ cB ((σ r_Md_leads)) n D d ≤ 256 := cB_b _ hO
        refine wp_run 4 (pc' := 187) (ls' := [some (.inr (.inr (r_Md, 0))), some (.inl w), some (.inl (c + (cB ((σ r_Md_leads)) n D d))), some (.inl (d + 1))]) (st' := []) (σ' := srl σ []) rfl ?_
        exact ih_187 (c + (cB ((σ r_Md_leads)) n D d)) (d + 1) hw7 (by omega) (by rw [hc, show (d + 1 - 1).toNat = (d - 1).toNat + 1 by omega]; show _ = sm _ (d - 1).toNat + cB (σ r_Md_leads) n D ((((d - 1).toNat : Nat) : Int) + 1); rw [show (((d - 1).toNat : Nat) : Int) + 1 = d by omega]) (by omega)
  have L_92 : ∀ (N : Nat) (c : Int) (k : Int), (w = 4) → (0 ≤ k ∧ k ≤ (σ r_Md_laws (σ r_Md_live 0))) → (c = sm (fun k => if σ r_Md_lawLength (8 * σ r_Md_live 0 + k) = 0 then 1 else 0) k.toNat) → ((σ r_Md_laws (σ r_Md_live 0)) - k).toNat < N → en_wp k_X12_count 92 [some (.inr (.inr (r_Md, 0))), some (.inl w), some (.inl c), some (.inl k)] [] (srl σ []) (fun r σ' => r = some (.inl (if w = 0 then p else if w = 1 then n else if w = 2 then D else if w = 3 then ((σ r_Md_laws) ((σ r_Md_live) 0)) else if w = 4 then sm (fun k => if (σ r_Md_lawLength) (8 * (σ r_Md_live) 0 + k) = 0 then 1 else 0) ((σ r_Md_laws) ((σ r_Md_live) 0)).toNat else if w = 5 then (σ r_Md_taped) 0 else if w = 6 then (σ r_Md_isHeld) 0 + (σ r_Md_isHeld) 1 + (σ r_Md_isHeld) 2 else if w = 7 then sm (fun d => cB ((σ r_Md_leads)) n D (d + 1)) (D).toNat else if 0 ≤ w - 10 ∧ w - 10 ≤ ((σ r_Md_laws) ((σ r_Md_live) 0)) - 1 then (σ r_Md_lawLength) (8 * (σ r_Md_live) 0 + w - 10) else -1)) ∧ σ' = σ) := by
    intro N
    induction N with
    | zero => intro c k; intros; omega
    | succ N ih_92 =>
      intro c k hw4 hk hc hN_92
      refine wp_run 5 (pc' := 101) (ls' := [some (.inr (.inr (r_Md, 0))), some (.inl w), some (.inl c), some (.inl k)]) (st' := [.inl (σ r_Md_live 0), .inr (.inr (r_Md_laws, 0)), .inl k]) (σ' := srl σ []) rfl ?_
      refine wp_iald0 rfl rfl (by omega) ?_
      show en_wp k_X12_count 102 [some (.inr (.inr (r_Md, 0))), some (.inl w), some (.inl c), some (.inl k)] [.inl (σ r_Md_laws (σ r_Md_live 0)), .inl k] (srl σ []) _
      refine wp_ic_ge rfl (by omega) (by omega) (fun h_3 => ?_) (fun h_3 => ?_)
      · show en_wp k_X12_count 131 [some (.inr (.inr (r_Md, 0))), some (.inl w), some (.inl c), some (.inl k)] [] (srl σ []) _
        refine wp_run 1 (pc' := 132) (ls' := [some (.inr (.inr (r_Md, 0))), some (.inl w), some (.inl c), some (.inl k)]) (st' := [.inl c]) (σ' := srl σ []) rfl ?_
        exact wp_iret rfl ⟨(by rw [hw4, hc, show k = (σ r_Md_laws (σ r_Md_live 0)) by omega]; rfl), rfl⟩
      · show en_wp k_X12_count 105 [some (.inr (.inr (r_Md, 0))), some (.inl w), some (.inl c), some (.inl k)] [] (srl σ []) _
        refine wp_run 8 (pc' := 118) (ls' := [some (.inr (.inr (r_Md, 0))), some (.inl w), some (.inl c), some (.inl k)]) (st' := [.inl ((8 * (σ r_Md_live 0)) + k), .inr (.inr (r_Md_lawLength, 0))]) (σ' := srl σ []) rfl ?_
        refine wp_iald0 rfl rfl (by omega) ?_
        show en_wp k_X12_count 119 [some (.inr (.inr (r_Md, 0))), some (.inl w), some (.inl c), some (.inl k)] [.inl (σ r_Md_lawLength ((8 * (σ r_Md_live 0)) + k))] (srl σ []) _
        have hl9 := hll (8 * σ r_Md_live 0 + k)
        refine wp_if_ne rfl (by omega) (fun h_4 => ?_) (fun h_4 => ?_)
        · show en_wp k_X12_count 125 [some (.inr (.inr (r_Md, 0))), some (.inl w), some (.inl c), some (.inl k)] [] (srl σ []) _
          refine wp_run 2 (pc' := 92) (ls' := [some (.inr (.inr (r_Md, 0))), some (.inl w), some (.inl c), some (.inl (k + 1))]) (st' := []) (σ' := srl σ []) rfl ?_
          exact ih_92 c (k + 1) hw4 (by omega) (by rw [hc, sm_s _ hk.1]; first | rw [if_pos (by assumption)] | rw [if_neg (by assumption), Int.add_zero]) (by omega)
        · show en_wp k_X12_count 122 [some (.inr (.inr (r_Md, 0))), some (.inl w), some (.inl c), some (.inl k)] [] (srl σ []) _
          refine wp_run 3 (pc' := 92) (ls' := [some (.inr (.inr (r_Md, 0))), some (.inl w), some (.inl (c + 1)), some (.inl (k + 1))]) (st' := []) (σ' := srl σ []) rfl ?_
          exact ih_92 (c + 1) (k + 1) hw4 (by omega) (by rw [hc, sm_s _ hk.1]; first | rw [if_pos (by assumption)] | rw [if_neg (by assumption), Int.add_zero]) (by omega)
  refine wp_run 1 (pc' := 1) (ls' := [some (.inr (.inr (r_Md, 0))), some (.inl w), none, none]) (st' := [.inl w]) (σ' := srl σ []) rfl ?_
  have h_5 : w = 0 ∨ w = 1 ∨ w = 2 ∨ w = 3 ∨ w = 4 ∨ w = 5 ∨ w = 6 ∨ w = 7 ∨ (¬ w = 0 ∧ ¬ w = 1 ∧ ¬ w = 2 ∧ ¬ w = 3 ∧ ¬ w = 4 ∧ ¬ w = 5 ∧ ¬ w = 6 ∧ ¬ w = 7) := by omega
  rcases h_5 with h_5 | h_5 | h_5 | h_5 | h_5 | h_5 | h_5 | h_5 | h_5
  · refine wp_top h_5 ?_
    refine wp_run 5 (pc' := 56) (ls' := [some (.inr (.inr (r_Md, 0))), some (.inl w), none, none]) (st' := [.inl (σ r_Md_live 0), .inr (.inr (r_Md_prime, 0))]) (σ' := srl σ []) rfl ?_
    refine wp_iald0 rfl rfl (by omega) ?_
    show en_wp k_X12_count 57 [some (.inr (.inr (r_Md, 0))), some (.inl w), none, none] [.inl (σ r_Md_prime (σ r_Md_live 0))] (srl σ []) _
    rw [hp]
    show en_wp k_X12_count 57 [some (.inr (.inr (r_Md, 0))), some (.inl w), none, none] [.inl p] (srl σ []) _
    exact wp_iret rfl ⟨(by repeat (first | rfl | rw [if_pos (by omega)] | rw [if_neg (by omega)])), rfl⟩
  · refine wp_top h_5 ?_
    refine wp_run 5 (pc' := 66) (ls' := [some (.inr (.inr (r_Md, 0))), some (.inl w), none, none]) (st' := [.inl (σ r_Md_live 0), .inr (.inr (r_Md_letters, 0))]) (σ' := srl σ []) rfl ?_
    refine wp_iald0 rfl rfl (by omega) ?_
    show en_wp k_X12_count 67 [some (.inr (.inr (r_Md, 0))), some (.inl w), none, none] [.inl (σ r_Md_letters (σ r_Md_live 0))] (srl σ []) _
    rw [hn]
    show en_wp k_X12_count 67 [some (.inr (.inr (r_Md, 0))), some (.inl w), none, none] [.inl n] (srl σ []) _
    exact wp_iret rfl ⟨(by repeat (first | rfl | rw [if_pos (by omega)] | rw [if_neg (by omega)])), rfl⟩
  · refine wp_top h_5 ?_
    refine wp_run 5 (pc' := 76) (ls' := [some (.inr (.inr (r_Md, 0))), some (.inl w), none, none]) (st' := [.inl (σ r_Md_live 0), .inr (.inr (r_Md_degree, 0))]) (σ' := srl σ []) rfl ?_
    refine wp_iald0 rfl rfl (by omega) ?_
    show en_wp k_X12_count 77 [some (.inr (.inr (r_Md, 0))), some (.inl w), none, none] [.inl (σ r_Md_degree (σ r_Md_live 0))] (srl σ []) _
    rw [hD]
    show en_wp k_X12_count 77 [some (.inr (.inr (r_Md, 0))), some (.inl w), none, none] [.inl D] (srl σ []) _
    exact wp_iret rfl ⟨(by repeat (first | rfl | rw [if_pos (by omega)] | rw [if_neg (by omega)])), rfl⟩
  · refine wp_top h_5 ?_
    refine wp_run 5 (pc' := 86) (ls' := [some (.inr (.inr (r_Md, 0))), some (.inl w), none, none]) (st' := [.inl (σ r_Md_live 0), .inr (.inr (r_Md_laws, 0))]) (σ' := srl σ []) rfl ?_
    refine wp_iald0 rfl rfl (by omega) ?_
    show en_wp k_X12_count 87 [some (.inr (.inr (r_Md, 0))), some (.inl w), none, none] [.inl (σ r_Md_laws (σ r_Md_live 0))] (srl σ []) _
    exact wp_iret rfl ⟨(by repeat (first | rfl | rw [if_pos (by omega)] | rw [if_neg (by omega)])), rfl⟩
  · refine wp_top h_5 ?_
    refine wp_run 5 (pc' := 92) (ls' := [some (.inr (.inr (r_Md, 0))), some (.inl w), some (.inl 0), some (.inl 0)]) (st' := []) (σ' := srl σ []) rfl ?_
    exact L_92 _ 0 0 (by assumption) (by omega) rfl (Nat.lt_succ_self _)
  · refine wp_top h_5 ?_
    refine wp_run 3 (pc' := 137) (ls' := [some (.inr (.inr (r_Md, 0))), some (.inl w), none, none]) (st' := [.inl (σ r_Md_taped 0)]) (σ' := srl σ []) rfl ?_
    exact wp_iret rfl ⟨(by repeat (first | rfl | rw [if_pos (by omega)] | rw [if_neg (by omega)])), rfl⟩
  · refine wp_top h_5 ?_
    refine wp_run 4 (pc' := 143) (ls' := [some (.inr (.inr (r_Md, 0))), some (.inl w), none, none]) (st' := [.inl 0, .inr (.inr (r_Md_isHeld, 0))]) (σ' := srl σ []) rfl ?_
    refine wp_bald0 rfl (.inr rfl) (by omega) ?_
    show en_wp k_X12_count 144 [some (.inr (.inr (r_Md, 0))), some (.inl w), none, none] [.inl (σ r_Md_isHeld 0)] (srl σ []) _
    have g0 := hih 0
    refine wp_if_eq rfl (by omega) (fun h_6 => ?_) (fun h_6 => ?_)
    · show en_wp k_X12_count 151 [some (.inr (.inr (r_Md, 0))), some (.inl w), none, none] [] (srl σ []) _
      refine wp_run 4 (pc' := 157) (ls' := [some (.inr (.inr (r_Md, 0))), some (.inl w), none, none]) (st' := [.inl 1, .inr (.inr (r_Md_isHeld, 0)), .inl 0]) (σ' := srl σ []) rfl ?_
      refine wp_bald0 rfl (.inr rfl) (by omega) ?_
      show en_wp k_X12_count 158 [some (.inr (.inr (r_Md, 0))), some (.inl w), none, none] [.inl (σ r_Md_isHeld 1), .inl 0] (srl σ []) _
      have g1 := hih 1
      refine wp_if_eq rfl (by omega) (fun h_7 => ?_) (fun h_7 => ?_)
      · show en_wp k_X12_count 165 [some (.inr (.inr (r_Md, 0))), some (.inl w), none, none] [.inl 0] (srl σ []) _
        refine wp_run 5 (pc' := 172) (ls' := [some (.inr (.inr (r_Md, 0))), some (.inl w), none, none]) (st' := [.inl 2, .inr (.inr (r_Md_isHeld, 0)), .inl 0]) (σ' := srl σ []) rfl ?_
        refine wp_bald0 rfl (.inr rfl) (by omega) ?_
        show en_wp k_X12_count 173 [some (.inr (.inr (r_Md, 0))), some (.inl w), none, none] [.inl (σ r_Md_isHeld 2), .inl 0] (srl σ []) _
        have g2 := hih 2
        refine wp_if_eq rfl (by omega) (fun h_8 => ?_) (fun h_8 => ?_)
        · show en_wp k_X12_count 180 [some (.inr (.inr (r_Md, 0))), some (.inl w), none, none] [.inl 0] (srl σ []) _
          refine wp_run 2 (pc' := 182) (ls' := [some (.inr (.inr (r_Md, 0))), some (.inl w), none, none]) (st' := [.inl 0]) (σ' := srl σ []) rfl ?_
          exact wp_iret rfl ⟨(by rcases g0 with g0 | g0 <;> rcases g1 with g1 | g1 <;> rcases g2 with g2 | g2 <;> simp_all), rfl⟩
        · show en_wp k_X12_count 176 [some (.inr (.inr (r_Md, 0))), some (.inl w), none, none] [.inl 0] (srl σ []) _
          refine wp_run 3 (pc' := 182) (ls' := [some (.inr (.inr (r_Md, 0))), some (.inl w), none, none]) (st' := [.inl 1]) (σ' := srl σ []) rfl ?_
          exact wp_iret rfl ⟨(by rcases g0 with g0 | g0 <;> rcases g1 with g1 | g1 <;> rcases g2 with g2 | g2 <;> simp_all), rfl⟩
      · show en_wp k_X12_count 161 [some (.inr (.inr (r_Md, 0))), some (.inl w), none, none] [.inl 0] (srl σ []) _
        refine wp_run 6 (pc' := 172) (ls' := [some (.inr (.inr (r_Md, 0))), some (.inl w), none, none]) (st' := [.inl 2, .inr (.inr (r_Md_isHeld, 0)), .inl 1]) (σ' := srl σ []) rfl ?_
        refine wp_bald0 rfl (.inr rfl) (by omega) ?_
        show en_wp k_X12_count 173 [some (.inr (.inr (r_Md, 0))), some (.inl w), none, none] [.inl (σ r_Md_isHeld 2), .inl 1] (srl σ []) _
        have g2 := hih 2
        refine wp_if_eq rfl (by omega) (fun h_9 => ?_) (fun h_9 => ?_)
        · show en_wp k_X12_count 180 [some (.inr (.inr (r_Md, 0))), some (.inl w), none, none] [.inl 1] (srl σ []) _
          refine wp_run 2 (pc' := 182) (ls' := [some (.inr (.inr (r_Md, 0))), some (.inl w), none, none]) (st' := [.inl 1]) (σ' := srl σ []) rfl ?_
          exact wp_iret rfl ⟨(by rcases g0 with g0 | g0 <;> rcases g1 with g1 | g1 <;> rcases g2 with g2 | g2 <;> simp_all), rfl⟩
        · show en_wp k_X12_count 176 [some (.inr (.inr (r_Md, 0))), some (.inl w), none, none] [.inl 1] (srl σ []) _
          refine wp_run 3 (pc' := 182) (ls' := [some (.inr (.inr (r_Md, 0))), some (.inl w), none, none]) (st' := [.inl 2]) (σ' := srl σ []) rfl ?_
          exact wp_iret rfl ⟨(by rcases g0 with g0 | g0 <;> rcases g1 with g1 | g1 <;> rcases g2 with g2 | g2 <;> simp_all), rfl⟩
    · show en_wp k_X12_count 147 [some (.inr (.inr (r_Md, 0))), some (.inl w), none, none] [] (srl σ []) _
      refine wp_run 5 (pc' := 157) (ls' := [some (.inr (.inr (r_Md, 0))), some (.inl w), none, none]) (st' := [.inl 1, .inr (.inr (r_Md_isHeld, 0)), .inl 1]) (σ' := srl σ []) rfl ?_
      refine wp_bald0 rfl (.inr rfl) (by omega) ?_
      show en_wp k_X12_count 158 [some (.inr (.inr (r_Md, 0))), some (.inl w), none, none] [.inl (σ r_Md_isHeld 1), .inl 1] (srl σ []) _
      have g1 := hih 1
      refine wp_if_eq rfl (by omega) (fun h_10 => ?_) (fun h_10 => ?_)
      · show en_wp k_X12_count 165 [some (.inr (.inr (r_Md, 0))), some (.inl w), none, none] [.inl 1] (srl σ []) _
        refine wp_run 5 (pc' := 172) (ls' := [some (.inr (.inr (r_Md, 0))), some (.inl w), none, none]) (st' := [.inl 2, .inr (.inr (r_Md_isHeld, 0)), .inl 1]) (σ' := srl σ []) rfl ?_
        refine wp_bald0 rfl (.inr rfl) (by omega) ?_
        show en_wp k_X12_count 173 [some (.inr (.inr (r_Md, 0))), some (.inl w), none, none] [.inl (σ r_Md_isHeld 2), .inl 1] (srl σ []) _
        have g2 := hih 2
        refine wp_if_eq rfl (by omega) (fun h_11 => ?_) (fun h_11 => ?_)
        · show en_wp k_X12_count 180 [some (.inr (.inr (r_Md, 0))), some (.inl w), none, none] [.inl 1] (srl σ []) _
          refine wp_run 2 (pc' := 182) (ls' := [some (.inr (.inr (r_Md, 0))), some (.inl w), none, none]) (st' := [.inl 1]) (σ' := srl σ []) rfl ?_
          exact wp_iret rfl ⟨(by rcases g0 with g0 | g0 <;> rcases g1 with g1 | g1 <;> rcases g2 with g2 | g2 <;> simp_all), rfl⟩
        · show en_wp k_X12_count 176 [some (.inr (.inr (r_Md, 0))), some (.inl w), none, none] [.inl 1] (srl σ []) _
          refine wp_run 3 (pc' := 182) (ls' := [some (.inr (.inr (r_Md, 0))), some (.inl w), none, none]) (st' := [.inl 2]) (σ' := srl σ []) rfl ?_
          exact wp_iret rfl ⟨(by rcases g0 with g0 | g0 <;> rcases g1 with g1 | g1 <;> rcases g2 with g2 | g2 <;> simp_all), rfl⟩
      · show en_wp k_X12_count 161 [some (.inr (.inr (r_Md, 0))), some (.inl w), none, none] [.inl 1] (srl σ []) _
        refine wp_run 6 (pc' := 172) (ls' := [some (.inr (.inr (r_Md, 0))), some (.inl w), none, none]) (st' := [.inl 2, .inr (.inr (r_Md_isHeld, 0)), .inl 2]) (σ' := srl σ []) rfl ?_
        refine wp_bald0 rfl (.inr rfl) (by omega) ?_
        show en_wp k_X12_count 173 [some (.inr (.inr (r_Md, 0))), some (.inl w), none, none] [.inl (σ r_Md_isHeld 2), .inl 2] (srl σ []) _
        have g2 := hih 2
        refine wp_if_eq rfl (by omega) (fun h_12 => ?_) (fun h_12 => ?_)
        · show en_wp k_X12_count 180 [some (.inr (.inr (r_Md, 0))), some (.inl w), none, none] [.inl 2] (srl σ []) _
          refine wp_run 2 (pc' := 182) (ls' := [some (.inr (.inr (r_Md, 0))), some (.inl w), none, none]) (st' := [.inl 2]) (σ' := srl σ []) rfl ?_
          exact wp_iret rfl ⟨(by rcases g0 with g0 | g0 <;> rcases g1 with g1 | g1 <;> rcases g2 with g2 | g2 <;> simp_all), rfl⟩
        · show en_wp k_X12_count 176 [some (.inr (.inr (r_Md, 0))), some (.inl w), none, none] [.inl 2] (srl σ []) _
          refine wp_run 3 (pc' := 182) (ls' := [some (.inr (.inr (r_Md, 0))), some (.inl w), none, none]) (st' := [.inl 3]) (σ' := srl σ []) rfl ?_
          exact wp_iret rfl ⟨(by rcases g0 with g0 | g0 <;> rcases g1 with g1 | g1 <;> rcases g2 with g2 | g2 <;> simp_all), rfl⟩
  · refine wp_top h_5 ?_
    refine wp_run 5 (pc' := 187) (ls' := [some (.inr (.inr (r_Md, 0))), some (.inl w), some (.inl 0), some (.inl 1)]) (st' := []) (σ' := srl σ []) rfl ?_
    exact L_187 _ 0 1 (by assumption) (by omega) rfl (Nat.lt_succ_self _)
  · refine wp_sw_out rfl (by omega) (by omega) rfl ?_
    show en_wp k_X12_count 216 [some (.inr (.inr (r_Md, 0))), some (.inl w), none, none] [] (srl σ []) _
    refine wp_run 8 (pc' := 229) (ls' := [some (.inr (.inr (r_Md, 0))), some (.inl w), none, none]) (st' := [.inl (σ r_Md_live 0), .inr (.inr (r_Md_laws, 0)), .inl 0, .inl (w - 10)]) (σ' := srl σ []) rfl ?_
    refine wp_iald0 rfl rfl (by omega) ?_
    show en_wp k_X12_count 230 [some (.inr (.inr (r_Md, 0))), some (.inl w), none, none] [.inl (σ r_Md_laws (σ r_Md_live 0)), .inl 0, .inl (w - 10)] (srl σ []) _
    refine wp_run 2 (pc' := 232) (ls' := [some (.inr (.inr (r_Md, 0))), some (.inl w), none, none]) (st' := [.inl ((σ r_Md_laws (σ r_Md_live 0)) - 1), .inl 0, .inl (w - 10)]) (σ' := srl σ []) rfl ?_
    have hw9 := in_w (w := w) h1
    refine wp_fns (v := .inl (bI (0 ≤ w32 (w - 10) ∧ w32 (w - 10) ≤ ((σ r_Md_laws (σ r_Md_live 0)) - 1)))) rfl rfl rfl rfl rfl (ct_X12_in_w σ (w - 10) 0 ((σ r_Md_laws (σ r_Md_live 0)) - 1) (by omega) (by omega)) ?_
    show en_wp k_X12_count 235 [some (.inr (.inr (r_Md, 0))), some (.inl w), none, none] [.inl (bI (0 ≤ w32 (w - 10) ∧ w32 (w - 10) ≤ ((σ r_Md_laws (σ r_Md_live 0)) - 1)))] (srl σ []) _
    refine wp_if_eqb rfl (fun h_13 => ?_) (fun h_13 => ?_)
    · show en_wp k_X12_count 258 [some (.inr (.inr (r_Md, 0))), some (.inl w), none, none] [] (srl σ []) _
      refine wp_run 1 (pc' := 259) (ls' := [some (.inr (.inr (r_Md, 0))), some (.inl w), none, none]) (st' := [.inl (-1)]) (σ' := srl σ []) rfl ?_
      exact wp_iret rfl ⟨(by repeat (first | rfl | rw [if_pos (by omega)] | rw [if_neg (by omega)])), rfl⟩
    · show en_wp k_X12_count 238 [some (.inr (.inr (r_Md, 0))), some (.inl w), none, none] [] (srl σ []) _
      refine wp_run 10 (pc' := 254) (ls' := [some (.inr (.inr (r_Md, 0))), some (.inl w), none, none]) (st' := [.inl (((8 * (σ r_Md_live 0)) + w) - 10), .inr (.inr (r_Md_lawLength, 0))]) (σ' := srl σ []) rfl ?_
      refine wp_iald0 rfl rfl (by omega) ?_
      show en_wp k_X12_count 255 [some (.inr (.inr (r_Md, 0))), some (.inl w), none, none] [.inl (σ r_Md_lawLength (((8 * (σ r_Md_live 0)) + w) - 10))] (srl σ []) _
      refine wp_run 1 (pc' := 259) (ls' := [some (.inr (.inr (r_Md, 0))), some (.inl w), none, none]) (st' := [.inl (σ r_Md_lawLength (((8 * (σ r_Md_live 0)) + w) - 10))]) (σ' := srl σ []) rfl ?_
      exact wp_iret rfl ⟨(by repeat (first | rfl | rw [if_pos (by omega)] | rw [if_neg (by omega)])), rfl⟩
