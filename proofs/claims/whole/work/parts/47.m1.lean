/-! contracts of methods, walked (written by wip/whole/walk.py from the annotations ann_m1) -/
theorem ct_X12_inverseOf (σ : en_m) (n : Int) (D : Int) (p : Int) (v : Int) (hI : mI σ n D p) (h1 : 1 ≤ v ∧ v < p) : en_ct z_X12_inverseOf [.inr (.inr (r_Md, 0)), .inl v] σ (fun r σ' => ∃ (rr : Int), r = some (.inl rr) ∧ σ' = srl σ [] ∧ (1 ≤ rr ∧ rr < p ∧ (v * rr) % p = 1)) := by
  show en_wp k_X12_inverseOf 0 [some (.inr (.inr (r_Md, 0))), some (.inl v), none] [] (srl σ []) (fun r σ' => ∃ (rr : Int), r = some (.inl rr) ∧ σ' = srl σ [] ∧ (1 ≤ rr ∧ rr < p ∧ (v * rr) % p = 1))
  have hI2 := hI
  obtain ⟨hO, hL, hn, hD, hp, hpw, hst⟩ := hI2
  obtain ⟨⟨hO1, hO2⟩, ⟨hO3, hO4⟩, hO5, hO6, hO7, hO8⟩ := id hO
  have L_2 : ∀ (N : Nat) (k : Int), (1 ≤ k ∧ k ≤ p) → (∀ j, 1 ≤ j → j < k → ¬ (v * j) % p = 1) → (p - k).toNat < N → en_wp k_X12_inverseOf 2 [some (.inr (.inr (r_Md, 0))), some (.inl v), some (.inl k)] [] (srl σ []) (fun r σ' => ∃ (rr : Int), r = some (.inl rr) ∧ σ' = srl σ [] ∧ (1 ≤ rr ∧ rr < p ∧ (v * rr) % p = 1)) := by
    intro N
    induction N with
    | zero => intro k; intros; omega
    | succ N ih_2 =>
      intro k hk hno hN_2
      refine wp_run 5 (pc' := 11) (ls' := [some (.inr (.inr (r_Md, 0))), some (.inl v), some (.inl k)]) (st' := [.inl (σ r_Md_live 0), .inr (.inr (r_Md_prime, 0)), .inl k]) (σ' := srl σ []) rfl ?_
      refine wp_iald0 rfl rfl (by omega) ?_
      show en_wp k_X12_inverseOf 12 [some (.inr (.inr (r_Md, 0))), some (.inl v), some (.inl k)] [.inl (σ r_Md_prime (σ r_Md_live 0)), .inl k] (srl σ []) _
      refine wp_ic_ge rfl (by omega) (by omega) (fun h_1 => ?_) (fun h_1 => ?_)
      · rw [hp] at h_1
        obtain ⟨i, h7, h8, h9⟩ := pr_inv hO.2.2.2 h1.1 h1.2
        rw [Int.mul_comm] at h9
        exact absurd h9 (hno i h7 (by omega))
      · rw [hp] at h_1
        show en_wp k_X12_inverseOf 15 [some (.inr (.inr (r_Md, 0))), some (.inl v), some (.inl k)] [] (srl σ []) _
        refine wp_run 2 (pc' := 17) (ls' := [some (.inr (.inr (r_Md, 0))), some (.inl v), some (.inl k)]) (st' := [.inl v, .inr (.inr (r_Md, 0))]) (σ' := srl σ []) rfl ?_
        refine wp_i2l rfl (by omega) ?_
        show en_wp k_X12_inverseOf 18 [some (.inr (.inr (r_Md, 0))), some (.inl v), some (.inl k)] [.inr (.inl v), .inr (.inr (r_Md, 0))] (srl σ []) _
        refine wp_run 1 (pc' := 19) (ls' := [some (.inr (.inr (r_Md, 0))), some (.inl v), some (.inl k)]) (st' := [.inl k, .inr (.inl v), .inr (.inr (r_Md, 0))]) (σ' := srl σ []) rfl ?_
        refine wp_i2l rfl (by omega) ?_
        show en_wp k_X12_inverseOf 20 [some (.inr (.inr (r_Md, 0))), some (.inl v), some (.inl k)] [.inr (.inl k), .inr (.inl v), .inr (.inr (r_Md, 0))] (srl σ []) _
        refine wp_run 1 (pc' := 21) (ls' := [some (.inr (.inr (r_Md, 0))), some (.inl v), some (.inl k)]) (st' := [.inr (.inl (v * k)), .inr (.inr (r_Md, 0))]) (σ' := srl σ []) rfl ?_
        have hm1 := m97 (a := v) (b := k) (by omega) (by omega)
        refine wp_fnv (v := .inl ((v * k) % p)) rfl rfl rfl rfl (ct_X12_rest σ n D p (v * k) hI (by omega)) ?_
        show en_wp k_X12_inverseOf 24 [some (.inr (.inr (r_Md, 0))), some (.inl v), some (.inl k)] [.inl ((v * k) % p)] (srl σ []) _
        have q_2 : 0 ≤ (v * k) % p ∧ (v * k) % p < p := sR_lt hO.2.2.2
        refine wp_run 1 (pc' := 25) (ls' := [some (.inr (.inr (r_Md, 0))), some (.inl v), some (.inl k)]) (st' := [.inl 1, .inl ((v * k) % p)]) (σ' := srl σ []) rfl ?_
        refine wp_ic_ne rfl (by omega) (by omega) (fun h_3 => ?_) (fun h_3 => ?_)
        · show en_wp k_X12_inverseOf 30 [some (.inr (.inr (r_Md, 0))), some (.inl v), some (.inl k)] [] (srl σ []) _
          refine wp_run 2 (pc' := 2) (ls' := [some (.inr (.inr (r_Md, 0))), some (.inl v), some (.inl (k + 1))]) (st' := []) (σ' := srl σ []) rfl ?_
          exact ih_2 (k + 1) (by omega) (by intro j h2 h3; rcases Int.lt_or_eq_of_le (show j ≤ k by omega) with h9 | h9 <;> first | exact hno j h2 h9 | (rw [h9]; assumption)) (by omega)
        · show en_wp k_X12_inverseOf 28 [some (.inr (.inr (r_Md, 0))), some (.inl v), some (.inl k)] [] (srl σ []) _
          refine wp_run 1 (pc' := 29) (ls' := [some (.inr (.inr (r_Md, 0))), some (.inl v), some (.inl k)]) (st' := [.inl k]) (σ' := srl σ []) rfl ?_
          exact wp_iret rfl ⟨k, rfl, srl_eq (l' := []) trivial trivial, ⟨by omega, by omega, by assumption⟩⟩
  refine wp_run 2 (pc' := 2) (ls' := [some (.inr (.inr (r_Md, 0))), some (.inl v), some (.inl 1)]) (st' := []) (σ' := srl σ []) rfl ?_
  exact L_2 _ 1 (by omega) (by intro j h2 h3; omega) (Nat.lt_succ_self _)
theorem ct_X12_joins (σ : en_m) (n : Int) (D : Int) (p : Int) (V : (Int → Int) → Prop) (q : Int) (d : Int) (hI : mI σ n D p) (hq : q = 0 ∨ q = 1) (hd : 0 ≤ d ∧ d ≤ D) (hrs : (σ r_Md_rowStart) (9 * q + d) = sQ n D d) (hrow : R97 ((σ r_Md_row))) (hrows : R97 ((σ r_Md_rows))) (hlead : R01 ((σ r_Md_leads))) (hrp : ∀ j, 0 ≤ j → j < sW n D d → 0 ≤ (σ r_Md_row) j ∧ (σ r_Md_row) j < p) (gcd : mD p (sW n D d) V (fun k x => (σ r_Md_rows) (70000 * q + sQ n D d + k * sW n D d + x)) (fun x => (σ r_Md_leads) (400 * q + sS n D d + x))) : en_ct z_X12_joins [.inr (.inr (r_Md, 0)), .inl q, .inl d] σ (fun r σ' => ∃ (f_Md_row : Int → Int), ∃ (f_Md_rows : Int → Int), ∃ (f_Md_leads : Int → Int), r = none ∧ σ' = srl σ [(r_Md_row, f_Md_row), (r_Md_rows, f_Md_rows), (r_Md_leads, f_Md_leads)] ∧ (mD p (sW n D d) (vAdd V ((σ r_Md_row))) (fun k x => f_Md_rows (70000 * q + sQ n D d + k * sW n D d + x)) (fun x => f_Md_leads (400 * q + sS n D d + x))) ∧ (∀ x, (x < 70000 * q + sQ n D d ∨ 70000 * q + sQ n D d + sW n D d * sW n D d ≤ x) → f_Md_rows x = (σ r_Md_rows) x) ∧ (∀ x, (x < 400 * q + sS n D d ∨ 400 * q + sS n D d + sW n D d ≤ x) → f_Md_leads x = (σ r_Md_leads) x) ∧ (R97 f_Md_row) ∧ (R97 f_Md_rows) ∧ (R01 f_Md_leads)) := by
  show en_wp k_X12_joins 0 [some (.inr (.inr (r_Md, 0))), some (.inl q), some (.inl d), none, none, none, none] [] (srl σ []) (fun r σ' => ∃ (f_Md_row : Int → Int), ∃ (f_Md_rows : Int → Int), ∃ (f_Md_leads : Int → Int), r = none ∧ σ' = srl σ [(r_Md_row, f_Md_row), (r_Md_rows, f_Md_rows), (r_Md_leads, f_Md_leads)] ∧ (mD p (sW n D d) (vAdd V ((σ r_Md_row))) (fun k x => f_Md_rows (70000 * q + sQ n D d + k * sW n D d + x)) (fun x => f_Md_leads (400 * q + sS n D d + x))) ∧ (∀ x, (x < 70000 * q + sQ n D d ∨ 70000 * q + sQ n D d + sW n D d * sW n D d ≤ x) → f_Md_rows x = (σ r_Md_rows) x) ∧ (∀ x, (x < 400 * q + sS n D d ∨ 400 * q + sS n D d + sW n D d ≤ x) → f_Md_leads x = (σ r_Md_leads) x) ∧ (R97 f_Md_row) ∧ (R97 f_Md_rows) ∧ (R01 f_Md_leads))
  have hI2 := hI
  obtain ⟨hO, hL, hn, hD, hp, hpw, hst⟩ := hI2
  obtain ⟨⟨hO1, hO2⟩, ⟨hO3, hO4⟩, hO5, hO6, hO7, hO8⟩ := id hO
  have hWb := sW_b (k := d) hO
  have hSb := sS_b (k := d) hO
  have hQ0 := sQ_mono (n := n) (D := D) hO.1.1 (Int.le_refl 0) hd.1
  rw [sQ_0] at hQ0
  have L_36 : ∀ (N : Nat) (l : Int) (k : Int) (b : Int) (X : Int → Int) (Y : Int → Int), (0 ≤ l ∧ l < sW n D d) → (rdI p (sW n D d) (fun x => σ r_Md_leads (400 * q + sS n D d + x)) (fun k x => σ r_Md_rows (70000 * q + sQ n D d + k * sW n D d + x)) (σ r_Md_row) X (-1) l) → ((1 ≤ b ∧ b < p) ∧ (X l * b) % p = 1) → (0 ≤ k ∧ k ≤ sW n D d) → (Y = seg (σ r_Md_rows) (70000 * q + sQ n D d + l * sW n D d) k (fun j => (X j * b) % p)) → (sW n D d - k).toNat < N → en_wp k_X12_joins 36 [some (.inr (.inr (r_Md, 0))), some (.inl q), some (.inl d), some (.inl l), some (.inl b), some (.inl (70000 * q + sQ n D d + l * sW n D d)), some (.inl k)] [] (srl σ [(r_Md_row, X), (r_Md_rows, Y)]) (fun r σ' => ∃ (f_Md_row : Int → Int), ∃ (f_Md_rows : Int → Int), ∃ (f_Md_leads : Int → Int), r = none ∧ σ' = srl σ [(r_Md_row, f_Md_row), (r_Md_rows, f_Md_rows), (r_Md_leads, f_Md_leads)] ∧ (mD p (sW n D d) (vAdd V ((σ r_Md_row))) (fun k x => f_Md_rows (70000 * q + sQ n D d + k * sW n D d + x)) (fun x => f_Md_leads (400 * q + sS n D d + x))) ∧ (∀ x, (x < 70000 * q + sQ n D d ∨ 70000 * q + sQ n D d + sW n D d * sW n D d ≤ x) → f_Md_rows x = (σ r_Md_rows) x) ∧ (∀ x, (x < 400 * q + sS n D d ∨ 400 * q + sS n D d + sW n D d ≤ x) → f_Md_leads x = (σ r_Md_leads) x) ∧ (R97 f_Md_row) ∧ (R97 f_Md_rows) ∧ (R01 f_Md_leads)) := by
    intro N
    induction N with
    | zero => intro l k b X Y; intros; omega
    | succ N ih_36 =>
      intro l k b X Y hl hrd hb hk hY hN_36
      refine wp_run 3 (pc' := 40) (ls' := [some (.inr (.inr (r_Md, 0))), some (.inl q), some (.inl d), some (.inl l), some (.inl b), some (.inl (70000 * q + sQ n D d + l * sW n D d)), some (.inl k)]) (st' := [.inl d, .inr (.inr (r_Md, 0)), .inl k]) (σ' := srl σ [(r_Md_row, X), (r_Md_rows, Y)]) rfl ?_
      refine wp_fnv (v := .inl (sW n D d)) rfl rfl rfl rfl (ct_X12_wide (srl σ [(r_Md_row, X), (r_Md_rows, Y)]) n D p d hI (by omega)) ?_
      show en_wp k_X12_joins 43 [some (.inr (.inr (r_Md, 0))), some (.inl q), some (.inl d), some (.inl l), some (.inl b), some (.inl (70000 * q + sQ n D d + l * sW n D d)), some (.inl k)] [.inl (sW n D d), .inl k] (srl σ [(r_Md_row, X), (r_Md_rows, Y)]) _
      have q_1 : 0 ≤ sW n D d ∧ sW n D d ≤ 256 := sW_b hO
      refine wp_ic_ge rfl (by omega) (by omega) (fun h_2 => ?_) (fun h_2 => ?_)
      · show en_wp k_X12_joins 78 [some (.inr (.inr (r_Md, 0))), some (.inl q), some (.inl d), some (.inl l), some (.inl b), some (.inl (70000 * q + sQ n D d + l * sW n D d)), some (.inl k)] [] (srl σ [(r_Md_row, X), (r_Md_rows, Y)]) _
        refine wp_run 7 (pc' := 89) (ls' := [some (.inr (.inr (r_Md, 0))), some (.inl q), some (.inl d), some (.inl l), some (.inl b), some (.inl (70000 * q + sQ n D d + l * sW n D d)), some (.inl k)]) (st' := [.inl d, .inr (.inr (r_Md, 0)), .inl (400 * q), .inr (.inr (r_Md_leads, 0))]) (σ' := srl σ [(r_Md_row, X), (r_Md_rows, Y)]) rfl ?_
        refine wp_fnv (v := .inl (sS n D d)) rfl rfl rfl rfl (ct_X12_start (srl σ [(r_Md_row, X), (r_Md_rows, Y)]) n D p d hI (by omega)) ?_
        show en_wp k_X12_joins 92 [some (.inr (.inr (r_Md, 0))), some (.inl q), some (.inl d), some (.inl l), some (.inl b), some (.inl (70000 * q + sQ n D d + l * sW n D d)), some (.inl k)] [.inl (sS n D d), .inl (400 * q), .inr (.inr (r_Md_leads, 0))] (srl σ [(r_Md_row, X), (r_Md_rows, Y)]) _
        have q_3 : 0 ≤ sS n D d ∧ sS n D d ≤ 364 := sS_b hO
        refine wp_run 4 (pc' := 96) (ls' := [some (.inr (.inr (r_Md, 0))), some (.inl q), some (.inl d), some (.inl l), some (.inl b), some (.inl (70000 * q + sQ n D d + l * sW n D d)), some (.inl k)]) (st' := [.inl 1, .inl (((400 * q) + (sS n D d)) + l), .inr (.inr (r_Md_leads, 0))]) (σ' := srl σ [(r_Md_row, X), (r_Md_rows, Y)]) rfl ?_
        have hsw := sS_word hO hd.1 hl
        refine wp_zast0 rfl rfl (by omega) (by omega) (wp_wr (l2 := [(r_Md_row, X), (r_Md_rows, Y), (r_Md_leads, (up (σ r_Md_leads) (((400 * q) + (sS n D d)) + l) 1))]) rfl ?_)
        show en_wp k_X12_joins 97 [some (.inr (.inr (r_Md, 0))), some (.inl q), some (.inl d), some (.inl l), some (.inl b), some (.inl (70000 * q + sQ n D d + l * sW n D d)), some (.inl k)] [] (srl σ [(r_Md_row, X), (r_Md_rows, Y), (r_Md_leads, (up (σ r_Md_leads) (((400 * q) + (sS n D d)) + l) 1))]) _
        exact wp_vret rfl ⟨X, Y, (up (σ r_Md_leads) (((400 * q) + (sS n D d)) + l) 1), rfl, srl_eq (l' := [(r_Md_row, X), (r_Md_rows, Y), (r_Md_leads, (up (σ r_Md_leads) (((400 * q) + (sS n D d)) + l) 1))]) (And.intro rfl (And.intro rfl (And.intro rfl trivial))) (And.intro rfl (And.intro rfl (And.intro rfl trivial))), ⟨joins_yes hO.2.2.2 gcd hrd hl.1 hb.2 (by rw [hY, show k = sW n D d by omega]), fun x h => by have h1 := sq_in hl (show 0 ≤ 0 ∧ 0 < sW n D d by omega); have h2 := sq_in hl (show 0 ≤ sW n D d - 1 ∧ sW n D d - 1 < sW n D d by omega); rw [hY, seg_out (by omega)], fun x h => up_ne (by omega), hrd.1, by rw [hY]; exact R97_seg hrows (fun j _ _ => by have := @sR_lt p (X j * b) hO.2.2.2; omega), R01_up hlead (.inr rfl)⟩⟩
      · show en_wp k_X12_joins 46 [some (.inr (.inr (r_Md, 0))), some (.inl q), some (.inl d), some (.inl l), some (.inl b), some (.inl (70000 * q + sQ n D d + l * sW n D d)), some (.inl k)] [] (srl σ [(r_Md_row, X), (r_Md_rows, Y)]) _
        refine wp_run 9 (pc' := 62) (ls' := [some (.inr (.inr (r_Md, 0))), some (.inl q), some (.inl d), some (.inl l), some (.inl b), some (.inl (70000 * q + sQ n D d + l * sW n D d)), some (.inl k)]) (st' := [.inl k, .inr (.inr (r_Md_row, 0)), .inr (.inr (r_Md, 0)), .inl ((70000 * q + sQ n D d + l * sW n D d) + k), .inr (.inr (r_Md_rows, 0))]) (σ' := srl σ [(r_Md_row, X), (r_Md_rows, Y)]) rfl ?_
        refine wp_iald0 rfl rfl (by omega) ?_
        show en_wp k_X12_joins 63 [some (.inr (.inr (r_Md, 0))), some (.inl q), some (.inl d), some (.inl l), some (.inl b), some (.inl (70000 * q + sQ n D d + l * sW n D d)), some (.inl k)] [.inl (X k), .inr (.inr (r_Md, 0)), .inl ((70000 * q + sQ n D d + l * sW n D d) + k), .inr (.inr (r_Md_rows, 0))] (srl σ [(r_Md_row, X), (r_Md_rows, Y)]) _
        have hXk := hrd.2.1 k (by omega) (by omega)
        have hm1 := m97 (a := X k) (b := b) (by omega) (by omega)
        refine wp_i2l rfl (by omega) ?_
        show en_wp k_X12_joins 64 [some (.inr (.inr (r_Md, 0))), some (.inl q), some (.inl d), some (.inl l), some (.inl b), some (.inl (70000 * q + sQ n D d + l * sW n D d)), some (.inl k)] [.inr (.inl (X k)), .inr (.inr (r_Md, 0)), .inl ((70000 * q + sQ n D d + l * sW n D d) + k), .inr (.inr (r_Md_rows, 0))] (srl σ [(r_Md_row, X), (r_Md_rows, Y)]) _
        refine wp_run 1 (pc' := 66) (ls' := [some (.inr (.inr (r_Md, 0))), some (.inl q), some (.inl d), some (.inl l), some (.inl b), some (.inl (70000 * q + sQ n D d + l * sW n D d)), some (.inl k)]) (st' := [.inl b, .inr (.inl (X k)), .inr (.inr (r_Md, 0)), .inl ((70000 * q + sQ n D d + l * sW n D d) + k), .inr (.inr (r_Md_rows, 0))]) (σ' := srl σ [(r_Md_row, X), (r_Md_rows, Y)]) rfl ?_
        refine wp_i2l rfl (by omega) ?_
        show en_wp k_X12_joins 67 [some (.inr (.inr (r_Md, 0))), some (.inl q), some (.inl d), some (.inl l), some (.inl b), some (.inl (70000 * q + sQ n D d + l * sW n D d)), some (.inl k)] [.inr (.inl b), .inr (.inl (X k)), .inr (.inr (r_Md, 0)), .inl ((70000 * q + sQ n D d + l * sW n D d) + k), .inr (.inr (r_Md_rows, 0))] (srl σ [(r_Md_row, X), (r_Md_rows, Y)]) _
        refine wp_run 1 (pc' := 68) (ls' := [some (.inr (.inr (r_Md, 0))), some (.inl q), some (.inl d), some (.inl l), some (.inl b), some (.inl (70000 * q + sQ n D d + l * sW n D d)), some (.inl k)]) (st' := [.inr (.inl ((X k) * b)), .inr (.inr (r_Md, 0)), .inl ((70000 * q + sQ n D d + l * sW n D d) + k), .inr (.inr (r_Md_rows, 0))]) (σ' := srl σ [(r_Md_row, X), (r_Md_rows, Y)]) rfl ?_
        refine wp_fnv (v := .inl (((X k) * b) % p)) rfl rfl rfl rfl (ct_X12_rest (srl σ [(r_Md_row, X), (r_Md_rows, Y)]) n D p ((X k) * b) hI (by omega)) ?_
        show en_wp k_X12_joins 71 [some (.inr (.inr (r_Md, 0))), some (.inl q), some (.inl d), some (.inl l), some (.inl b), some (.inl (70000 * q + sQ n D d + l * sW n D d)), some (.inl k)] [.inl (((X k) * b) % p), .inl ((70000 * q + sQ n D d + l * sW n D d) + k), .inr (.inr (r_Md_rows, 0))] (srl σ [(r_Md_row, X), (r_Md_rows, Y)]) _
        have q_4 : 0 ≤ ((X k) * b) % p ∧ ((X k) * b) % p < p := sR_lt hO.2.2.2
        have hat := sQ_in hO hd.1 (show 0 ≤ l ∧ l < sW n D d by omega) (show 0 ≤ k ∧ k < sW n D d by omega)
        refine wp_iast0 rfl rfl (by omega) (wp_wr (l2 := [(r_Md_row, X), (r_Md_rows, (up Y ((70000 * q + sQ n D d + l * sW n D d) + k) (((X k) * b) % p)))]) rfl ?_)
        show en_wp k_X12_joins 72 [some (.inr (.inr (r_Md, 0))), some (.inl q), some (.inl d), some (.inl l), some (.inl b), some (.inl (70000 * q + sQ n D d + l * sW n D d)), some (.inl k)] [] (srl σ [(r_Md_row, X), (r_Md_rows, (up Y ((70000 * q + sQ n D d + l * sW n D d) + k) (((X k) * b) % p)))]) _
        refine wp_run 2 (pc' := 36) (ls' := [some (.inr (.inr (r_Md, 0))), some (.inl q), some (.inl d), some (.inl l), some (.inl b), some (.inl (70000 * q + sQ n D d + l * sW n D d)), some (.inl (k + 1))]) (st' := []) (σ' := srl σ [(r_Md_row, X), (r_Md_rows, (up Y ((70000 * q + sQ n D d + l * sW n D d) + k) (((X k) * b) % p)))]) rfl ?_
        exact ih_36 l (k + 1) b X (up Y ((70000 * q + sQ n D d + l * sW n D d) + k) (((X k) * b) % p)) (by omega) hrd hb (by omega) (by rw [hY]; exact seg_up hk.1 rfl) (by omega)
  refine wp_run 3 (pc' := 3) (ls' := [some (.inr (.inr (r_Md, 0))), some (.inl q), some (.inl d), none, none, none, none]) (st' := [.inl d, .inl q, .inr (.inr (r_Md, 0))]) (σ' := srl σ []) rfl ?_
  refine wp_callv rfl rfl rfl rfl (ct_X12_reduces σ n D p q d hI (by omega) (by omega) hrs hrow hrows hlead hrp (fun k h0 h1 e => gcd.2.1 k h0 h1 e)) ?_
  rintro _ _ ⟨f_5, r_6, rfl, rfl, p_7⟩
  have p_7 : rdI p (sW n D d) (fun x => (σ r_Md_leads) (400 * q + sS n D d + x)) (fun k x => (σ r_Md_rows) (70000 * q + sQ n D d + k * sW n D d + x)) ((σ r_Md_row)) f_5 (-1) r_6 := p_7
  show en_wp k_X12_joins 6 [some (.inr (.inr (r_Md, 0))), some (.inl q), some (.inl d), none, none, none, none] [.inl r_6] (srl σ [(r_Md_row, f_5)]) _
  have hrd := p_7
  have hlb : -1 ≤ r_6 ∧ r_6 < 256 := by have := rd_l hrd; omega
  have hXl := hrd.2.1 r_6
  refine wp_run 2 (pc' := 8) (ls' := [some (.inr (.inr (r_Md, 0))), some (.inl q), some (.inl d), some (.inl r_6), none, none, none]) (st' := [.inl r_6]) (σ' := srl σ [(r_Md_row, f_5)]) rfl ?_
  refine wp_if_ge rfl (by omega) (fun h_8 => ?_) (fun h_8 => ?_)
  · show en_wp k_X12_joins 12 [some (.inr (.inr (r_Md, 0))), some (.inl q), some (.inl d), some (.inl r_6), none, none, none] [] (srl σ [(r_Md_row, f_5)]) _
    refine wp_run 4 (pc' := 18) (ls' := [some (.inr (.inr (r_Md, 0))), some (.inl q), some (.inl d), some (.inl r_6), none, none, none]) (st' := [.inl r_6, .inr (.inr (r_Md_row, 0)), .inr (.inr (r_Md, 0))]) (σ' := srl σ [(r_Md_row, f_5)]) rfl ?_
    refine wp_iald0 rfl rfl (by omega) ?_
    show en_wp k_X12_joins 19 [some (.inr (.inr (r_Md, 0))), some (.inl q), some (.inl d), some (.inl r_6), none, none, none] [.inl (f_5 r_6), .inr (.inr (r_Md, 0))] (srl σ [(r_Md_row, f_5)]) _
    have hrl := rd_l hrd
    have hX2 := hXl (by omega) (by omega)
    refine wp_callv rfl rfl rfl rfl (ct_X12_inverseOf (srl σ [(r_Md_row, f_5)]) n D p (f_5 r_6) hI (by omega)) ?_
    rintro _ _ ⟨r_9, rfl, rfl, p_10⟩
    have p_10 : 1 ≤ r_9 ∧ r_9 < p ∧ ((f_5 r_6) * r_9) % p = 1 := p_10
    show en_wp k_X12_joins 22 [some (.inr (.inr (r_Md, 0))), some (.inl q), some (.inl d), some (.inl r_6), none, none, none] [.inl r_9] (srl σ [(r_Md_row, f_5)]) _
    have hinv := p_10
    refine wp_run 5 (pc' := 28) (ls' := [some (.inr (.inr (r_Md, 0))), some (.inl q), some (.inl d), some (.inl r_6), some (.inl r_9), none, none]) (st' := [.inl r_6, .inl d, .inl q, .inr (.inr (r_Md, 0))]) (σ' := srl σ [(r_Md_row, f_5)]) rfl ?_
    refine wp_fnv (v := .inl (70000 * q + sQ n D d + r_6 * sW n D d)) rfl rfl rfl rfl (ct_X12_rowAt (srl σ [(r_Md_row, f_5)]) n D p q d r_6 hI (by omega) (by omega) hrs (by omega)) ?_
    show en_wp k_X12_joins 31 [some (.inr (.inr (r_Md, 0))), some (.inl q), some (.inl d), some (.inl r_6), some (.inl r_9), none, none] [.inl (70000 * q + sQ n D d + r_6 * sW n D d)] (srl σ [(r_Md_row, f_5)]) _
    refine wp_run 3 (pc' := 36) (ls' := [some (.inr (.inr (r_Md, 0))), some (.inl q), some (.inl d), some (.inl r_6), some (.inl r_9), some (.inl (70000 * q + sQ n D d + r_6 * sW n D d)), some (.inl 0)]) (st' := []) (σ' := srl σ [(r_Md_row, f_5)]) rfl ?_
    refine wp_mem (srl_eq (l' := [(r_Md_row, f_5), (r_Md_rows, (σ r_Md_rows))]) (And.intro rfl trivial) (And.intro rfl (And.intro rfl trivial))) ?_
    exact L_36 _ r_6 0 r_9 f_5 (σ r_Md_rows) (by omega) hrd ⟨by omega, hinv.2.2⟩ (by omega) (seg_0 _ _ _).symm (Nat.lt_succ_self _)
  · show en_wp k_X12_joins 11 [some (.inr (.inr (r_Md, 0))), some (.inl q), some (.inl d), some (.inl r_6), none, none, none] [] (srl σ [(r_Md_row, f_5)]) _
    exact wp_vret rfl ⟨f_5, (σ r_Md_rows), (σ r_Md_leads), rfl, srl_eq (l' := [(r_Md_row, f_5), (r_Md_rows, σ r_Md_rows), (r_Md_leads, σ r_Md_leads)]) (And.intro rfl trivial) (And.intro rfl (And.intro rfl (And.intro rfl trivial))), ⟨joins_no hO.2.2.2 gcd hrd (by omega), fun _ _ => rfl, fun _ _ => rfl, hrd.1, hrows, hlead⟩⟩
