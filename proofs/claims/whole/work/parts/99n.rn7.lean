/-! contracts of methods, walked (written by wip/whole/walk.py from the annotations ann_m36) -/
set_option maxRecDepth 8000 in
theorem ct_X12_rankOf (σ : en_m) (n : Int) (D : Int) (p : Int) (hI : mI σ n D p) (hdim : 0 ≤ (σ r_Md_matrixWide) 0 ∧ 0 ≤ (σ r_Md_matrixRows) 0 ∧ (σ r_Md_matrixWide) 0 * (σ r_Md_matrixRows) 0 ≤ 90000) (hdi2 : (σ r_Md_matrixWide) 0 ≤ 90000 ∧ (σ r_Md_matrixRows) 0 ≤ 90000) (hX97 : R97 ((σ r_Md_matrix))) (hXp : ∀ i j, 0 ≤ i → i < (σ r_Md_matrixRows) 0 → 0 ≤ j → j < (σ r_Md_matrixWide) 0 → 0 ≤ (σ r_Md_matrix) ((σ r_Md_matrixWide) 0 * i + j) ∧ (σ r_Md_matrix) ((σ r_Md_matrixWide) 0 * i + j) < p) : en_ct z_X12_rankOf [.inr (.inr (r_Md, 0))] σ (fun r σ' => ∃ (f_Md_matrix : Int → Int), ∃ (rr : Int), r = some (.inl rr) ∧ σ' = srl σ [(r_Md_matrix, f_Md_matrix)] ∧ (rkM p (fun i j => (σ r_Md_matrix) ((σ r_Md_matrixWide) 0 * i + j)) ((σ r_Md_matrixRows) 0) ((σ r_Md_matrixWide) 0) rr) ∧ (R97 f_Md_matrix)) := by
  show en_wp k_X12_rankOf 0 [some (.inr (.inr (r_Md, 0))), none, none, none, none, none, none, none] [] (srl σ []) (fun r σ' => ∃ (f_Md_matrix : Int → Int), ∃ (rr : Int), r = some (.inl rr) ∧ σ' = srl σ [(r_Md_matrix, f_Md_matrix)] ∧ (rkM p (fun i j => (σ r_Md_matrix) ((σ r_Md_matrixWide) 0 * i + j)) ((σ r_Md_matrixRows) 0) ((σ r_Md_matrixWide) 0) rr) ∧ (R97 f_Md_matrix))
  have hI2 := hI
  obtain ⟨hO, hL, hn, hD, hp, hpw, hst⟩ := hI2
  obtain ⟨⟨hO1, hO2⟩, ⟨hO3, hO4⟩, hO5, hO6, hO7, hO8⟩ := id hO
  have L_4 : ∀ (N : Nat) (nn : Int) (c : Int) (X : Int → Int), (0 ≤ nn ∧ nn ≤ (σ r_Md_matrixRows 0)) → (0 ≤ c ∧ c ≤ (σ r_Md_matrixWide 0)) → (R97 X) → (elI p (fun i j => σ r_Md_matrix ((σ r_Md_matrixWide 0) * i + j)) (fun i j => X ((σ r_Md_matrixWide 0) * i + j)) (σ r_Md_matrixRows 0) (σ r_Md_matrixWide 0) nn c) → ((σ r_Md_matrixWide 0) - c).toNat < N → en_wp k_X12_rankOf 4 [some (.inr (.inr (r_Md, 0))), some (.inl nn), some (.inl c), none, none, none, none, none] [] (srl σ [(r_Md_matrix, X)]) (fun r σ' => ∃ (f_Md_matrix : Int → Int), ∃ (rr : Int), r = some (.inl rr) ∧ σ' = srl σ [(r_Md_matrix, f_Md_matrix)] ∧ (rkM p (fun i j => (σ r_Md_matrix) ((σ r_Md_matrixWide) 0 * i + j)) ((σ r_Md_matrixRows) 0) ((σ r_Md_matrixWide) 0) rr) ∧ (R97 f_Md_matrix)) := by
    intro N
    induction N with
    | zero => intro nn c X; intros; omega
    | succ N ih_4 =>
      intro nn c X hnn hc hX hel hN_4
      have L_165 : ∀ (N : Nat) (f : Int) (b : Int) (r : Int) (X3 : Int → Int), (c < (σ r_Md_matrixWide 0)) → (nn ≤ f ∧ f < (σ r_Md_matrixRows 0)) → (¬ X ((σ r_Md_matrixWide 0) * f + c) = 0) → ((1 ≤ b ∧ b < p) ∧ (X ((σ r_Md_matrixWide 0) * f + c) * b) % p = 1) → (nn + 1 ≤ r ∧ r ≤ (σ r_Md_matrixRows 0)) → (R97 X3) → (elR p (fun i j => X ((σ r_Md_matrixWide 0) * swp nn f i + j)) (fun i j => X3 ((σ r_Md_matrixWide 0) * i + j)) (σ r_Md_matrixRows 0) (σ r_Md_matrixWide 0) nn c r) → ((σ r_Md_matrixRows 0) - r).toNat < N → en_wp k_X12_rankOf 165 [some (.inr (.inr (r_Md, 0))), some (.inl nn), some (.inl c), none, some (.inl b), some (.inl r), none, none] [] (srl σ [(r_Md_matrix, X3)]) (fun r σ' => ∃ (f_Md_matrix : Int → Int), ∃ (rr : Int), r = some (.inl rr) ∧ σ' = srl σ [(r_Md_matrix, f_Md_matrix)] ∧ (rkM p (fun i j => (σ r_Md_matrix) ((σ r_Md_matrixWide) 0 * i + j)) ((σ r_Md_matrixRows) 0) ((σ r_Md_matrixWide) 0) rr) ∧ (R97 f_Md_matrix)) := by
        intro N
        induction N with
        | zero => intro f b r X3; intros; omega
        | succ N ih_165 =>
          intro f b r X3 hcw hf hMf hb hr hX3 hR hN_165
          have L_210 : ∀ (N : Nat) (g : Int) (k : Int) (X4 : Int → Int), (r < (σ r_Md_matrixRows 0)) → ((0 ≤ g ∧ g < 97) ∧ g = (X3 ((σ r_Md_matrixWide 0) * r + c) * b) % p) → (c ≤ k ∧ k ≤ (σ r_Md_matrixWide 0)) → (R97 X4) → (∀ i j, 0 ≤ i → i < (σ r_Md_matrixRows 0) → 0 ≤ j → j < (σ r_Md_matrixWide 0) → X4 ((σ r_Md_matrixWide 0) * i + j) = if i = r ∧ c ≤ j ∧ j < k then (X3 ((σ r_Md_matrixWide 0) * r + j) - g * X3 ((σ r_Md_matrixWide 0) * nn + j)) % p else X3 ((σ r_Md_matrixWide 0) * i + j)) → ((σ r_Md_matrixWide 0) - k).toNat < N → en_wp k_X12_rankOf 210 [some (.inr (.inr (r_Md, 0))), some (.inl nn), some (.inl c), none, some (.inl b), some (.inl r), some (.inl g), some (.inl k)] [] (srl σ [(r_Md_matrix, X4)]) (fun r σ' => ∃ (f_Md_matrix : Int → Int), ∃ (rr : Int), r = some (.inl rr) ∧ σ' = srl σ [(r_Md_matrix, f_Md_matrix)] ∧ (rkM p (fun i j => (σ r_Md_matrix) ((σ r_Md_matrixWide) 0 * i + j)) ((σ r_Md_matrixRows) 0) ((σ r_Md_matrixWide) 0) rr) ∧ (R97 f_Md_matrix)) := by
            intro N
            induction N with
            | zero => intro g k X4; intros; omega
            | succ N ih_210 =>
              intro g k X4 hrm hg hk hX4 hY hN_210
              refine wp_run 3 (pc' := 216) (ls' := [some (.inr (.inr (r_Md, 0))), some (.inl nn), some (.inl c), none, some (.inl b), some (.inl r), some (.inl g), some (.inl k)]) (st' := [.inl (σ r_Md_matrixWide 0), .inl k]) (σ' := srl σ [(r_Md_matrix, X4)]) rfl ?_
              refine wp_ic_ge rfl (by omega) (by omega) (fun h_1 => ?_) (fun h_1 => ?_)
              · show en_wp k_X12_rankOf 280 [some (.inr (.inr (r_Md, 0))), some (.inl nn), some (.inl c), none, some (.inl b), some (.inl r), some (.inl g), some (.inl k)] [] (srl σ [(r_Md_matrix, X4)]) _
                refine wp_run 2 (pc' := 165) (ls' := [some (.inr (.inr (r_Md, 0))), some (.inl nn), some (.inl c), none, some (.inl b), some (.inl (r + 1)), some (.inl g), some (.inl k)]) (st' := []) (σ' := srl σ [(r_Md_matrix, X4)]) rfl ?_
                refine wp_sub (l := [some (.inr (.inr (r_Md, 0))), some (.inl nn), some (.inl c), none, some (.inl b), some (.inl (r + 1)), none, none]) (And.intro rfl (And.intro rfl (And.intro rfl (And.intro rfl (And.intro rfl trivial))))) ?_
                exact ih_165 _ b (r + 1) X4 (by omega) (by omega) hMf hb (by omega) hX4 (el_row (g := g) (b := b) hO.2.2.2 hR (by omega) hnn.1 ⟨hc.1, hcw⟩ (by show (X ((σ r_Md_matrixWide 0) * swp nn f nn + c) * b) % p = 1; rw [show swp nn f nn = f from if_pos rfl]; exact hb.2) hg.2 (fun j a b => by show X ((σ r_Md_matrixWide 0) * swp nn f nn + j) = 0; rw [show swp nn f nn = f from if_pos rfl]; exact hel.2.2.2 f j hf.1 hf.2 a b) (fun i j a b a0 a1 => by have h9 := hY i j a b a0 a1; rw [h9]; by_cases g9 : i = r ∧ c ≤ j; rw [if_pos g9, if_pos (by omega)]; rw [if_neg g9, if_neg (by omega)])) (by omega)
              · show en_wp k_X12_rankOf 219 [some (.inr (.inr (r_Md, 0))), some (.inl nn), some (.inl c), none, some (.inl b), some (.inl r), some (.inl g), some (.inl k)] [] (srl σ [(r_Md_matrix, X4)]) _
                refine wp_run 17 (pc' := 248) (ls' := [some (.inr (.inr (r_Md, 0))), some (.inl nn), some (.inl c), none, some (.inl b), some (.inl r), some (.inl g), some (.inl k)]) (st' := [.inl (((σ r_Md_matrixWide 0) * r) + k), .inr (.inr (r_Md_matrix, 0)), .inr (.inr (r_Md, 0)), .inl (((σ r_Md_matrixWide 0) * r) + k), .inr (.inr (r_Md_matrix, 0))]) (σ' := srl σ [(r_Md_matrix, X4)]) rfl ?_
                have hi1 := ix_b (w := (σ r_Md_matrixWide 0)) (m := (σ r_Md_matrixRows 0)) (i := r) (j := k) (by omega) (by omega) hdim.2.2
                have hi2 := ix_b (w := (σ r_Md_matrixWide 0)) (m := (σ r_Md_matrixRows 0)) (i := nn) (j := k) (by omega) (by omega) hdim.2.2
                have hx1 := hX4 ((σ r_Md_matrixWide 0) * r + k)
                have hx2 := hX4 ((σ r_Md_matrixWide 0) * nn + k)
                have hmb := m97 (a := g) (b := X4 ((σ r_Md_matrixWide 0) * nn + k)) hg.1 hx2
                have hmod := @sR_lt p (X4 ((σ r_Md_matrixWide 0) * r + k) - g * X4 ((σ r_Md_matrixWide 0) * nn + k)) hO.2.2.2
                have hy1 := hY r k (by omega) hrm (by omega) (by omega)
                rw [if_neg (by omega)] at hy1
                have hy2 := hY nn k (by omega) (by omega) (by omega) (by omega)
                rw [if_neg (by omega)] at hy2
                refine wp_iald0 rfl rfl (by omega) ?_
                show en_wp k_X12_rankOf 249 [some (.inr (.inr (r_Md, 0))), some (.inl nn), some (.inl c), none, some (.inl b), some (.inl r), some (.inl g), some (.inl k)] [.inl (X4 (((σ r_Md_matrixWide 0) * r) + k)), .inr (.inr (r_Md, 0)), .inl (((σ r_Md_matrixWide 0) * r) + k), .inr (.inr (r_Md_matrix, 0))] (srl σ [(r_Md_matrix, X4)]) _
                refine wp_i2l rfl (by omega) ?_
                show en_wp k_X12_rankOf 250 [some (.inr (.inr (r_Md, 0))), some (.inl nn), some (.inl c), none, some (.inl b), some (.inl r), some (.inl g), some (.inl k)] [.inr (.inl (X4 (((σ r_Md_matrixWide 0) * r) + k))), .inr (.inr (r_Md, 0)), .inl (((σ r_Md_matrixWide 0) * r) + k), .inr (.inr (r_Md_matrix, 0))] (srl σ [(r_Md_matrix, X4)]) _
                refine wp_run 1 (pc' := 252) (ls' := [some (.inr (.inr (r_Md, 0))), some (.inl nn), some (.inl c), none, some (.inl b), some (.inl r), some (.inl g), some (.inl k)]) (st' := [.inl g, .inr (.inl (X4 (((σ r_Md_matrixWide 0) * r) + k))), .inr (.inr (r_Md, 0)), .inl (((σ r_Md_matrixWide 0) * r) + k), .inr (.inr (r_Md_matrix, 0))]) (σ' := srl σ [(r_Md_matrix, X4)]) rfl ?_
                refine wp_i2l rfl (by omega) ?_
                show en_wp k_X12_rankOf 253 [some (.inr (.inr (r_Md, 0))), some (.inl nn), some (.inl c), none, some (.inl b), some (.inl r), some (.inl g), some (.inl k)] [.inr (.inl g), .inr (.inl (X4 (((σ r_Md_matrixWide 0) * r) + k))), .inr (.inr (r_Md, 0)), .inl (((σ r_Md_matrixWide 0) * r) + k), .inr (.inr (r_Md_matrix, 0))] (srl σ [(r_Md_matrix, X4)]) _
                refine wp_run 8 (pc' := 266) (ls' := [some (.inr (.inr (r_Md, 0))), some (.inl nn), some (.inl c), none, some (.inl b), some (.inl r), some (.inl g), some (.inl k)]) (st' := [.inl (((σ r_Md_matrixWide 0) * nn) + k), .inr (.inr (r_Md_matrix, 0)), .inr (.inl g), .inr (.inl (X4 (((σ r_Md_matrixWide 0) * r) + k))), .inr (.inr (r_Md, 0)), .inl (((σ r_Md_matrixWide 0) * r) + k), .inr (.inr (r_Md_matrix, 0))]) (σ' := srl σ [(r_Md_matrix, X4)]) rfl ?_
                refine wp_iald0 rfl rfl (by omega) ?_
                show en_wp k_X12_rankOf 267 [some (.inr (.inr (r_Md, 0))), some (.inl nn), some (.inl c), none, some (.inl b), some (.inl r), some (.inl g), some (.inl k)] [.inl (X4 (((σ r_Md_matrixWide 0) * nn) + k)), .inr (.inl g), .inr (.inl (X4 (((σ r_Md_matrixWide 0) * r) + k))), .inr (.inr (r_Md, 0)), .inl (((σ r_Md_matrixWide 0) * r) + k), .inr (.inr (r_Md_matrix, 0))] (srl σ [(r_Md_matrix, X4)]) _
                refine wp_i2l rfl (by omega) ?_
                show en_wp k_X12_rankOf 268 [some (.inr (.inr (r_Md, 0))), some (.inl nn), some (.inl c), none, some (.inl b), some (.inl r), some (.inl g), some (.inl k)] [.inr (.inl (X4 (((σ r_Md_matrixWide 0) * nn) + k))), .inr (.inl g), .inr (.inl (X4 (((σ r_Md_matrixWide 0) * r) + k))), .inr (.inr (r_Md, 0)), .inl (((σ r_Md_matrixWide 0) * r) + k), .inr (.inr (r_Md_matrix, 0))] (srl σ [(r_Md_matrix, X4)]) _
                refine wp_run 2 (pc' := 270) (ls' := [some (.inr (.inr (r_Md, 0))), some (.inl nn), some (.inl c), none, some (.inl b), some (.inl r), some (.inl g), some (.inl k)]) (st' := [.inr (.inl ((X4 (((σ r_Md_matrixWide 0) * r) + k)) - (g * (X4 (((σ r_Md_matrixWide 0) * nn) + k))))), .inr (.inr (r_Md, 0)), .inl (((σ r_Md_matrixWide 0) * r) + k), .inr (.inr (r_Md_matrix, 0))]) (σ' := srl σ [(r_Md_matrix, X4)]) rfl ?_
                refine wp_fnv (v := .inl (((X4 (((σ r_Md_matrixWide 0) * r) + k)) - (g * (X4 (((σ r_Md_matrixWide 0) * nn) + k)))) % p)) rfl rfl rfl rfl (ct_X12_rest (srl σ [(r_Md_matrix, X4)]) n D p ((X4 (((σ r_Md_matrixWide 0) * r) + k)) - (g * (X4 (((σ r_Md_matrixWide 0) * nn) + k)))) hI (by omega)) ?_
                show en_wp k_X12_rankOf 273 [some (.inr (.inr (r_Md, 0))), some (.inl nn), some (.inl c), none, some (.inl b), some (.inl r), some (.inl g), some (.inl k)] [.inl (((X4 (((σ r_Md_matrixWide 0) * r) + k)) - (g * (X4 (((σ r_Md_matrixWide 0) * nn) + k)))) % p), .inl (((σ r_Md_matrixWide 0) * r) + k), .inr (.inr (r_Md_matrix, 0))] (srl σ [(r_Md_matrix, X4)]) _
                have q_2 : 0 ≤ ((X4 (((σ r_Md_matrixWide 0) * r) + k)) - (g * (X4 (((σ r_Md_matrixWide 0) * nn) + k)))) % p ∧ ((X4 (((σ r_Md_matrixWide 0) * r) + k)) - (g * (X4 (((σ r_Md_matrixWide 0) * nn) + k)))) % p < p := sR_lt hO.2.2.2
                refine wp_iast0 rfl rfl (by omega) (wp_wr (l2 := [(r_Md_matrix, (up X4 (((σ r_Md_matrixWide 0) * r) + k) (((X4 (((σ r_Md_matrixWide 0) * r) + k)) - (g * (X4 (((σ r_Md_matrixWide 0) * nn) + k)))) % p)))]) rfl ?_)
                show en_wp k_X12_rankOf 274 [some (.inr (.inr (r_Md, 0))), some (.inl nn), some (.inl c), none, some (.inl b), some (.inl r), some (.inl g), some (.inl k)] [] (srl σ [(r_Md_matrix, (up X4 (((σ r_Md_matrixWide 0) * r) + k) (((X4 (((σ r_Md_matrixWide 0) * r) + k)) - (g * (X4 (((σ r_Md_matrixWide 0) * nn) + k)))) % p)))]) _
                refine wp_run 2 (pc' := 210) (ls' := [some (.inr (.inr (r_Md, 0))), some (.inl nn), some (.inl c), none, some (.inl b), some (.inl r), some (.inl g), some (.inl (k + 1))]) (st' := []) (σ' := srl σ [(r_Md_matrix, (up X4 (((σ r_Md_matrixWide 0) * r) + k) (((X4 (((σ r_Md_matrixWide 0) * r) + k)) - (g * (X4 (((σ r_Md_matrixWide 0) * nn) + k)))) % p)))]) rfl ?_
                exact ih_210 g (k + 1) (up X4 (((σ r_Md_matrixWide 0) * r) + k) (((X4 (((σ r_Md_matrixWide 0) * r) + k)) - (g * (X4 (((σ r_Md_matrixWide 0) * nn) + k)))) % p)) (by omega) hg (by omega) (R97_up hX4 (by omega)) (fun i j a b a0 a1 => by rw [up_ix (by omega) ⟨a0, a1⟩]; by_cases g9 : i = r ∧ j = k; rw [if_pos g9, if_pos ⟨g9.1, by omega, by omega⟩, hy1, hy2, g9.2]; rw [if_neg g9, hY i j a b a0 a1]; by_cases g8 : i = r ∧ c ≤ j ∧ j < k; rw [if_pos g8, if_pos (by omega)]; rw [if_neg g8, if_neg (by omega)]) (by omega)
          refine wp_run 3 (pc' := 171) (ls' := [some (.inr (.inr (r_Md, 0))), some (.inl nn), some (.inl c), none, some (.inl b), some (.inl r), none, none]) (st' := [.inl (σ r_Md_matrixRows 0), .inl r]) (σ' := srl σ [(r_Md_matrix, X3)]) rfl ?_
          refine wp_ic_ge rfl (by omega) (by omega) (fun h_3 => ?_) (fun h_3 => ?_)
          · show en_wp k_X12_rankOf 286 [some (.inr (.inr (r_Md, 0))), some (.inl nn), some (.inl c), none, some (.inl b), some (.inl r), none, none] [] (srl σ [(r_Md_matrix, X3)]) _
            refine wp_run 3 (pc' := 4) (ls' := [some (.inr (.inr (r_Md, 0))), some (.inl (nn + 1)), some (.inl (c + 1)), none, some (.inl b), some (.inl r), none, none]) (st' := []) (σ' := srl σ [(r_Md_matrix, X3)]) rfl ?_
            refine wp_sub (l := [some (.inr (.inr (r_Md, 0))), some (.inl (nn + 1)), some (.inl (c + 1)), none, none, none, none, none]) (And.intro rfl (And.intro rfl (And.intro rfl trivial))) ?_
            exact ih_4 (nn + 1) (c + 1) X3 (by omega) (by omega) hX3 (el_yes hel ⟨hc.1, hcw⟩ hnn.1 hf hMf (fun i j _ _ _ _ => rfl) (by rw [show r = (σ r_Md_matrixRows 0) by omega] at hR; exact hR)) (by omega)
          · show en_wp k_X12_rankOf 174 [some (.inr (.inr (r_Md, 0))), some (.inl nn), some (.inl c), none, some (.inl b), some (.inl r), none, none] [] (srl σ [(r_Md_matrix, X3)]) _
            refine wp_run 9 (pc' := 188) (ls' := [some (.inr (.inr (r_Md, 0))), some (.inl nn), some (.inl c), none, some (.inl b), some (.inl r), none, none]) (st' := [.inl (((σ r_Md_matrixWide 0) * r) + c), .inr (.inr (r_Md_matrix, 0)), .inr (.inr (r_Md, 0))]) (σ' := srl σ [(r_Md_matrix, X3)]) rfl ?_
            have hix := ix_b (w := (σ r_Md_matrixWide 0)) (m := (σ r_Md_matrixRows 0)) (i := r) (j := c) (by omega) (by omega) hdim.2.2
            have hxb := hX3 ((σ r_Md_matrixWide 0) * r + c)
            have hmb := m97 (a := X3 ((σ r_Md_matrixWide 0) * r + c)) (b := b) (by omega) (by omega)
            have hmod := @sR_lt p (X3 ((σ r_Md_matrixWide 0) * r + c) * b) hO.2.2.2
            refine wp_iald0 rfl rfl (by omega) ?_
            show en_wp k_X12_rankOf 189 [some (.inr (.inr (r_Md, 0))), some (.inl nn), some (.inl c), none, some (.inl b), some (.inl r), none, none] [.inl (X3 (((σ r_Md_matrixWide 0) * r) + c)), .inr (.inr (r_Md, 0))] (srl σ [(r_Md_matrix, X3)]) _
            refine wp_i2l rfl (by omega) ?_
            show en_wp k_X12_rankOf 190 [some (.inr (.inr (r_Md, 0))), some (.inl nn), some (.inl c), none, some (.inl b), some (.inl r), none, none] [.inr (.inl (X3 (((σ r_Md_matrixWide 0) * r) + c))), .inr (.inr (r_Md, 0))] (srl σ [(r_Md_matrix, X3)]) _
            refine wp_run 1 (pc' := 192) (ls' := [some (.inr (.inr (r_Md, 0))), some (.inl nn), some (.inl c), none, some (.inl b), some (.inl r), none, none]) (st' := [.inl b, .inr (.inl (X3 (((σ r_Md_matrixWide 0) * r) + c))), .inr (.inr (r_Md, 0))]) (σ' := srl σ [(r_Md_matrix, X3)]) rfl ?_
            refine wp_i2l rfl (by omega) ?_
            show en_wp k_X12_rankOf 193 [some (.inr (.inr (r_Md, 0))), some (.inl nn), some (.inl c), none, some (.inl b), some (.inl r), none, none] [.inr (.inl b), .inr (.inl (X3 (((σ r_Md_matrixWide 0) * r) + c))), .inr (.inr (r_Md, 0))] (srl σ [(r_Md_matrix, X3)]) _
            refine wp_run 1 (pc' := 194) (ls' := [some (.inr (.inr (r_Md, 0))), some (.inl nn), some (.inl c), none, some (.inl b), some (.inl r), none, none]) (st' := [.inr (.inl ((X3 (((σ r_Md_matrixWide 0) * r) + c)) * b)), .inr (.inr (r_Md, 0))]) (σ' := srl σ [(r_Md_matrix, X3)]) rfl ?_
            refine wp_fnv (v := .inl (((X3 (((σ r_Md_matrixWide 0) * r) + c)) * b) % p)) rfl rfl rfl rfl (ct_X12_rest (srl σ [(r_Md_matrix, X3)]) n D p ((X3 (((σ r_Md_matrixWide 0) * r) + c)) * b) hI (by omega)) ?_
            show en_wp k_X12_rankOf 197 [some (.inr (.inr (r_Md, 0))), some (.inl nn), some (.inl c), none, some (.inl b), some (.inl r), none, none] [.inl (((X3 (((σ r_Md_matrixWide 0) * r) + c)) * b) % p)] (srl σ [(r_Md_matrix, X3)]) _
            have q_4 : 0 ≤ ((X3 (((σ r_Md_matrixWide 0) * r) + c)) * b) % p ∧ ((X3 (((σ r_Md_matrixWide 0) * r) + c)) * b) % p < p := sR_lt hO.2.2.2
            refine wp_run 2 (pc' := 201) (ls' := [some (.inr (.inr (r_Md, 0))), some (.inl nn), some (.inl c), none, some (.inl b), some (.inl r), some (.inl (((X3 (((σ r_Md_matrixWide 0) * r) + c)) * b) % p)), none]) (st' := [.inl (((X3 (((σ r_Md_matrixWide 0) * r) + c)) * b) % p)]) (σ' := srl σ [(r_Md_matrix, X3)]) rfl ?_
            refine wp_if_ne rfl (by omega) (fun h_5 => ?_) (fun h_5 => ?_)
            · show en_wp k_X12_rankOf 207 [some (.inr (.inr (r_Md, 0))), some (.inl nn), some (.inl c), none, some (.inl b), some (.inl r), some (.inl (((X3 (((σ r_Md_matrixWide 0) * r) + c)) * b) % p)), none] [] (srl σ [(r_Md_matrix, X3)]) _
              refine wp_run 2 (pc' := 210) (ls' := [some (.inr (.inr (r_Md, 0))), some (.inl nn), some (.inl c), none, some (.inl b), some (.inl r), some (.inl (((X3 (((σ r_Md_matrixWide 0) * r) + c)) * b) % p)), some (.inl c)]) (st' := []) (σ' := srl σ [(r_Md_matrix, X3)]) rfl ?_
              exact L_210 _ (((X3 (((σ r_Md_matrixWide 0) * r) + c)) * b) % p) c X3 (by omega) ⟨by omega, rfl⟩ (by omega) hX3 (fun i j a b a0 a1 => by rw [if_neg (by omega)]) (Nat.lt_succ_self _)
            · show en_wp k_X12_rankOf 204 [some (.inr (.inr (r_Md, 0))), some (.inl nn), some (.inl c), none, some (.inl b), some (.inl r), some (.inl (((X3 (((σ r_Md_matrixWide 0) * r) + c)) * b) % p)), none] [] (srl σ [(r_Md_matrix, X3)]) _
              refine wp_run 3 (pc' := 165) (ls' := [some (.inr (.inr (r_Md, 0))), some (.inl nn), some (.inl c), none, some (.inl b), some (.inl (r + 1)), some (.inl (((X3 (((σ r_Md_matrixWide 0) * r) + c)) * b) % p)), none]) (st' := []) (σ' := srl σ [(r_Md_matrix, X3)]) rfl ?_
              refine wp_sub (l := [some (.inr (.inr (r_Md, 0))), some (.inl nn), some (.inl c), none, some (.inl b), some (.inl (r + 1)), none, none]) (And.intro rfl (And.intro rfl (And.intro rfl (And.intro rfl (And.intro rfl trivial))))) ?_
              exact ih_165 _ b (r + 1) X3 (by omega) (by omega) hMf hb (by omega) hX3 (el_row (g := 0) (b := b) hO.2.2.2 hR (by omega) hnn.1 ⟨hc.1, hcw⟩ (by show (X ((σ r_Md_matrixWide 0) * swp nn f nn + c) * b) % p = 1; rw [show swp nn f nn = f from if_pos rfl]; exact hb.2) (by omega) (fun j a b => by show X ((σ r_Md_matrixWide 0) * swp nn f nn + j) = 0; rw [show swp nn f nn = f from if_pos rfl]; exact hel.2.2.2 f j hf.1 hf.2 a b) (fun i j a b a0 a1 => by by_cases g9 : i = r ∧ c ≤ j; rw [if_pos g9, Int.zero_mul, Int.sub_zero, g9.1]; exact (Int.emod_eq_of_lt ((hR r (by omega) (by omega)).1 j a0 a1).1 ((hR r (by omega) (by omega)).1 j a0 a1).2).symm; rw [if_neg g9])) (by omega)
      have L_66 : ∀ (N : Nat) (f : Int) (k : Int) (X1 : Int → Int), (c < (σ r_Md_matrixWide 0)) → (nn ≤ f ∧ f < (σ r_Md_matrixRows 0)) → (¬ X ((σ r_Md_matrixWide 0) * f + c) = 0) → (0 ≤ k ∧ k ≤ (σ r_Md_matrixWide 0)) → (R97 X1) → (∀ i j, 0 ≤ i → i < (σ r_Md_matrixRows 0) → 0 ≤ j → j < (σ r_Md_matrixWide 0) → X1 ((σ r_Md_matrixWide 0) * i + j) = if j < k then X ((σ r_Md_matrixWide 0) * swp nn f i + j) else X ((σ r_Md_matrixWide 0) * i + j)) → ((σ r_Md_matrixWide 0) - k).toNat < N → en_wp k_X12_rankOf 66 [some (.inr (.inr (r_Md, 0))), some (.inl nn), some (.inl c), some (.inl f), some (.inl k), none, none, none] [] (srl σ [(r_Md_matrix, X1)]) (fun r σ' => ∃ (f_Md_matrix : Int → Int), ∃ (rr : Int), r = some (.inl rr) ∧ σ' = srl σ [(r_Md_matrix, f_Md_matrix)] ∧ (rkM p (fun i j => (σ r_Md_matrix) ((σ r_Md_matrixWide) 0 * i + j)) ((σ r_Md_matrixRows) 0) ((σ r_Md_matrixWide) 0) rr) ∧ (R97 f_Md_matrix)) := by
        intro N
        induction N with
        | zero => intro f k X1; intros; omega
        | succ N ih_66 =>
          intro f k X1 hcw hf hMf hk hX1 hS hN_66
          refine wp_run 3 (pc' := 72) (ls' := [some (.inr (.inr (r_Md, 0))), some (.inl nn), some (.inl c), some (.inl f), some (.inl k), none, none, none]) (st' := [.inl (σ r_Md_matrixWide 0), .inl k]) (σ' := srl σ [(r_Md_matrix, X1)]) rfl ?_
          refine wp_ic_ge rfl (by omega) (by omega) (fun h_6 => ?_) (fun h_6 => ?_)
          · show en_wp k_X12_rankOf 141 [some (.inr (.inr (r_Md, 0))), some (.inl nn), some (.inl c), some (.inl f), some (.inl k), none, none, none] [] (srl σ [(r_Md_matrix, X1)]) _
            refine wp_run 9 (pc' := 154) (ls' := [some (.inr (.inr (r_Md, 0))), some (.inl nn), some (.inl c), some (.inl f), some (.inl k), none, none, none]) (st' := [.inl (((σ r_Md_matrixWide 0) * nn) + c), .inr (.inr (r_Md_matrix, 0)), .inr (.inr (r_Md, 0))]) (σ' := srl σ [(r_Md_matrix, X1)]) rfl ?_
            have hix := ix_b (w := (σ r_Md_matrixWide 0)) (m := (σ r_Md_matrixRows 0)) (i := nn) (j := c) (by omega) (by omega) hdim.2.2
            have hS0 := hS nn c (by omega) (by omega) (by omega) (by omega)
            rw [if_pos (by omega), show swp nn f nn = f from if_pos rfl] at hS0
            have hxp : 0 ≤ X ((σ r_Md_matrixWide 0) * f + c) ∧ X ((σ r_Md_matrixWide 0) * f + c) < p := hel.2.1 f c (by omega) (by omega) (by omega) (by omega)
            refine wp_iald0 rfl rfl (by omega) ?_
            show en_wp k_X12_rankOf 155 [some (.inr (.inr (r_Md, 0))), some (.inl nn), some (.inl c), some (.inl f), some (.inl k), none, none, none] [.inl (X1 (((σ r_Md_matrixWide 0) * nn) + c)), .inr (.inr (r_Md, 0))] (srl σ [(r_Md_matrix, X1)]) _
            refine wp_callv rfl rfl rfl rfl (ct_X12_inverseOf (srl σ [(r_Md_matrix, X1)]) n D p (X1 (((σ r_Md_matrixWide 0) * nn) + c)) hI (by rw [hS0]; omega)) ?_
            rintro _ _ ⟨r_7, rfl, rfl, p_8⟩
            have p_8 : 1 ≤ r_7 ∧ r_7 < p ∧ ((X1 (((σ r_Md_matrixWide 0) * nn) + c)) * r_7) % p = 1 := p_8
            show en_wp k_X12_rankOf 158 [some (.inr (.inr (r_Md, 0))), some (.inl nn), some (.inl c), some (.inl f), some (.inl k), none, none, none] [.inl r_7] (srl σ [(r_Md_matrix, X1)]) _
            have hbv := p_8
            refine wp_run 5 (pc' := 165) (ls' := [some (.inr (.inr (r_Md, 0))), some (.inl nn), some (.inl c), some (.inl f), some (.inl r_7), some (.inl (nn + 1)), none, none]) (st' := []) (σ' := srl σ [(r_Md_matrix, X1)]) rfl ?_
            refine wp_sub (l := [some (.inr (.inr (r_Md, 0))), some (.inl nn), some (.inl c), none, some (.inl r_7), some (.inl (nn + 1)), none, none]) (And.intro rfl (And.intro rfl (And.intro rfl (And.intro rfl (And.intro rfl trivial))))) ?_
            exact L_165 _ _ r_7 (nn + 1) X1 (by omega) (by omega) hMf ⟨⟨hbv.1, hbv.2.1⟩, by rw [← hS0]; exact hbv.2.2⟩ (by omega) hX1 (elR_0 (fun i j a b a0 a1 => by have hsw := swp_b (i := i) (m := (σ r_Md_matrixRows 0)) (nn := nn) (f := f) (by omega) (by omega) ⟨a, b⟩; exact hel.2.1 (swp nn f i) j hsw.1 hsw.2 a0 a1) (fun i j a b a0 a1 => by have := hS i j a b a0 a1; rw [if_pos (by omega)] at this; exact this) rfl) (Nat.lt_succ_self _)
          · show en_wp k_X12_rankOf 75 [some (.inr (.inr (r_Md, 0))), some (.inl nn), some (.inl c), some (.inl f), some (.inl k), none, none, none] [] (srl σ [(r_Md_matrix, X1)]) _
            refine wp_run 8 (pc' := 88) (ls' := [some (.inr (.inr (r_Md, 0))), some (.inl nn), some (.inl c), some (.inl f), some (.inl k), none, none, none]) (st' := [.inl (((σ r_Md_matrixWide 0) * nn) + k), .inr (.inr (r_Md_matrix, 0))]) (σ' := srl σ [(r_Md_matrix, X1)]) rfl ?_
            have hi1 := ix_b (w := (σ r_Md_matrixWide 0)) (m := (σ r_Md_matrixRows 0)) (i := nn) (j := k) (by omega) (by omega) hdim.2.2
            have hi2 := ix_b (w := (σ r_Md_matrixWide 0)) (m := (σ r_Md_matrixRows 0)) (i := f) (j := k) (by omega) (by omega) hdim.2.2
            have hx1 := hX1 ((σ r_Md_matrixWide 0) * nn + k)
            have hx2 := hX1 ((σ r_Md_matrixWide 0) * f + k)
            refine wp_iald0 rfl rfl (by omega) ?_
            show en_wp k_X12_rankOf 89 [some (.inr (.inr (r_Md, 0))), some (.inl nn), some (.inl c), some (.inl f), some (.inl k), none, none, none] [.inl (X1 (((σ r_Md_matrixWide 0) * nn) + k))] (srl σ [(r_Md_matrix, X1)]) _
            refine wp_run 17 (pc' := 117) (ls' := [some (.inr (.inr (r_Md, 0))), some (.inl nn), some (.inl c), some (.inl f), some (.inl k), some (.inl (X1 (((σ r_Md_matrixWide 0) * nn) + k))), none, none]) (st' := [.inl (((σ r_Md_matrixWide 0) * f) + k), .inr (.inr (r_Md_matrix, 0)), .inl (((σ r_Md_matrixWide 0) * nn) + k), .inr (.inr (r_Md_matrix, 0))]) (σ' := srl σ [(r_Md_matrix, X1)]) rfl ?_
            refine wp_iald0 rfl rfl (by omega) ?_
            show en_wp k_X12_rankOf 118 [some (.inr (.inr (r_Md, 0))), some (.inl nn), some (.inl c), some (.inl f), some (.inl k), some (.inl (X1 (((σ r_Md_matrixWide 0) * nn) + k))), none, none] [.inl (X1 (((σ r_Md_matrixWide 0) * f) + k)), .inl (((σ r_Md_matrixWide 0) * nn) + k), .inr (.inr (r_Md_matrix, 0))] (srl σ [(r_Md_matrix, X1)]) _
            refine wp_iast0 rfl rfl (by omega) (wp_wr (l2 := [(r_Md_matrix, (up X1 (((σ r_Md_matrixWide 0) * nn) + k) (X1 (((σ r_Md_matrixWide 0) * f) + k))))]) rfl ?_)
            show en_wp k_X12_rankOf 119 [some (.inr (.inr (r_Md, 0))), some (.inl nn), some (.inl c), some (.inl f), some (.inl k), some (.inl (X1 (((σ r_Md_matrixWide 0) * nn) + k))), none, none] [] (srl σ [(r_Md_matrix, (up X1 (((σ r_Md_matrixWide 0) * nn) + k) (X1 (((σ r_Md_matrixWide 0) * f) + k))))]) _
            refine wp_run 9 (pc' := 134) (ls' := [some (.inr (.inr (r_Md, 0))), some (.inl nn), some (.inl c), some (.inl f), some (.inl k), some (.inl (X1 (((σ r_Md_matrixWide 0) * nn) + k))), none, none]) (st' := [.inl (X1 (((σ r_Md_matrixWide 0) * nn) + k)), .inl (((σ r_Md_matrixWide 0) * f) + k), .inr (.inr (r_Md_matrix, 0))]) (σ' := srl σ [(r_Md_matrix, (up X1 (((σ r_Md_matrixWide 0) * nn) + k) (X1 (((σ r_Md_matrixWide 0) * f) + k))))]) rfl ?_
            refine wp_iast0 rfl rfl (by omega) (wp_wr (l2 := [(r_Md_matrix, (up (up X1 (((σ r_Md_matrixWide 0) * nn) + k) (X1 (((σ r_Md_matrixWide 0) * f) + k))) (((σ r_Md_matrixWide 0) * f) + k) (X1 (((σ r_Md_matrixWide 0) * nn) + k))))]) rfl ?_)
            show en_wp k_X12_rankOf 135 [some (.inr (.inr (r_Md, 0))), some (.inl nn), some (.inl c), some (.inl f), some (.inl k), some (.inl (X1 (((σ r_Md_matrixWide 0) * nn) + k))), none, none] [] (srl σ [(r_Md_matrix, (up (up X1 (((σ r_Md_matrixWide 0) * nn) + k) (X1 (((σ r_Md_matrixWide 0) * f) + k))) (((σ r_Md_matrixWide 0) * f) + k) (X1 (((σ r_Md_matrixWide 0) * nn) + k))))]) _
            refine wp_run 2 (pc' := 66) (ls' := [some (.inr (.inr (r_Md, 0))), some (.inl nn), some (.inl c), some (.inl f), some (.inl (k + 1)), some (.inl (X1 (((σ r_Md_matrixWide 0) * nn) + k))), none, none]) (st' := []) (σ' := srl σ [(r_Md_matrix, (up (up X1 (((σ r_Md_matrixWide 0) * nn) + k) (X1 (((σ r_Md_matrixWide 0) * f) + k))) (((σ r_Md_matrixWide 0) * f) + k) (X1 (((σ r_Md_matrixWide 0) * nn) + k))))]) rfl ?_
            refine wp_sub (l := [some (.inr (.inr (r_Md, 0))), some (.inl nn), some (.inl c), some (.inl f), some (.inl (k + 1)), none, none, none]) (And.intro rfl (And.intro rfl (And.intro rfl (And.intro rfl (And.intro rfl trivial))))) ?_
            exact ih_66 f (k + 1) (up (up X1 (((σ r_Md_matrixWide 0) * nn) + k) (X1 (((σ r_Md_matrixWide 0) * f) + k))) (((σ r_Md_matrixWide 0) * f) + k) (X1 (((σ r_Md_matrixWide 0) * nn) + k))) (by omega) (by omega) hMf (by omega) (R97_up (R97_up hX1 hx2) hx1) (by have hq := sw_step (k := k) (by omega) (nn := nn) (f := f) (by omega) (by omega) hS; exact hq) (by omega)
      have L_22 : ∀ (N : Nat) (f : Int), (c < (σ r_Md_matrixWide 0)) → (nn < (σ r_Md_matrixRows 0)) → (nn ≤ f ∧ f ≤ (σ r_Md_matrixRows 0)) → (∀ i, nn ≤ i → i < f → X ((σ r_Md_matrixWide 0) * i + c) = 0) → ((σ r_Md_matrixRows 0) - f).toNat < N → en_wp k_X12_rankOf 22 [some (.inr (.inr (r_Md, 0))), some (.inl nn), some (.inl c), some (.inl f), none, none, none, none] [] (srl σ [(r_Md_matrix, X)]) (fun r σ' => ∃ (f_Md_matrix : Int → Int), ∃ (rr : Int), r = some (.inl rr) ∧ σ' = srl σ [(r_Md_matrix, f_Md_matrix)] ∧ (rkM p (fun i j => (σ r_Md_matrix) ((σ r_Md_matrixWide) 0 * i + j)) ((σ r_Md_matrixRows) 0) ((σ r_Md_matrixWide) 0) rr) ∧ (R97 f_Md_matrix)) := by
        intro N
        induction N with
        | zero => intro f; intros; omega
        | succ N ih_22 =>
          intro f hcw hnm hff hz hN_22
          refine wp_run 3 (pc' := 27) (ls' := [some (.inr (.inr (r_Md, 0))), some (.inl nn), some (.inl c), some (.inl f), none, none, none, none]) (st' := [.inl (σ r_Md_matrixRows 0), .inl f]) (σ' := srl σ [(r_Md_matrix, X)]) rfl ?_
          refine wp_ic_ge rfl (by omega) (by omega) (fun h_9 => ?_) (fun h_9 => ?_)
          · show en_wp k_X12_rankOf 52 [some (.inr (.inr (r_Md, 0))), some (.inl nn), some (.inl c), some (.inl f), none, none, none, none] [] (srl σ [(r_Md_matrix, X)]) _
            refine wp_run 3 (pc' := 57) (ls' := [some (.inr (.inr (r_Md, 0))), some (.inl nn), some (.inl c), some (.inl f), none, none, none, none]) (st' := [.inl (σ r_Md_matrixRows 0), .inl f]) (σ' := srl σ [(r_Md_matrix, X)]) rfl ?_
            refine wp_ic_ne rfl (by omega) (by omega) (fun h_10 => ?_) (fun h_10 => ?_)
            · show en_wp k_X12_rankOf 63 [some (.inr (.inr (r_Md, 0))), some (.inl nn), some (.inl c), some (.inl f), none, none, none, none] [] (srl σ [(r_Md_matrix, X)]) _
              refine wp_run 2 (pc' := 66) (ls' := [some (.inr (.inr (r_Md, 0))), some (.inl nn), some (.inl c), some (.inl f), some (.inl 0), none, none, none]) (st' := []) (σ' := srl σ [(r_Md_matrix, X)]) rfl ?_
              exact L_66 _ f 0 X (by omega) (by omega) (by exfalso; omega) (by omega) hX (fun i j a b a0 a1 => by rw [if_neg (by omega)]) (Nat.lt_succ_self _)
            · show en_wp k_X12_rankOf 60 [some (.inr (.inr (r_Md, 0))), some (.inl nn), some (.inl c), some (.inl f), none, none, none, none] [] (srl σ [(r_Md_matrix, X)]) _
              refine wp_run 3 (pc' := 4) (ls' := [some (.inr (.inr (r_Md, 0))), some (.inl nn), some (.inl (c + 1)), some (.inl f), none, none, none, none]) (st' := []) (σ' := srl σ [(r_Md_matrix, X)]) rfl ?_
              refine wp_sub (l := [some (.inr (.inr (r_Md, 0))), some (.inl nn), some (.inl (c + 1)), none, none, none, none, none]) (And.intro rfl (And.intro rfl (And.intro rfl trivial))) ?_
              exact ih_4 nn (c + 1) X (by omega) (by omega) hX (el_no hel hc.1 (fun i a b => hz i a (by omega))) (by omega)
          · show en_wp k_X12_rankOf 30 [some (.inr (.inr (r_Md, 0))), some (.inl nn), some (.inl c), some (.inl f), none, none, none, none] [] (srl σ [(r_Md_matrix, X)]) _
            refine wp_run 8 (pc' := 42) (ls' := [some (.inr (.inr (r_Md, 0))), some (.inl nn), some (.inl c), some (.inl f), none, none, none, none]) (st' := [.inl (((σ r_Md_matrixWide 0) * f) + c), .inr (.inr (r_Md_matrix, 0))]) (σ' := srl σ [(r_Md_matrix, X)]) rfl ?_
            have hix := ix_b (w := (σ r_Md_matrixWide 0)) (m := (σ r_Md_matrixRows 0)) (i := f) (j := c) (by omega) (by omega) hdim.2.2
            have hxb := hX ((σ r_Md_matrixWide 0) * f + c)
            refine wp_iald0 rfl rfl (by omega) ?_
            show en_wp k_X12_rankOf 43 [some (.inr (.inr (r_Md, 0))), some (.inl nn), some (.inl c), some (.inl f), none, none, none, none] [.inl (X (((σ r_Md_matrixWide 0) * f) + c))] (srl σ [(r_Md_matrix, X)]) _
            refine wp_if_ne rfl (by omega) (fun h_11 => ?_) (fun h_11 => ?_)
            · show en_wp k_X12_rankOf 52 [some (.inr (.inr (r_Md, 0))), some (.inl nn), some (.inl c), some (.inl f), none, none, none, none] [] (srl σ [(r_Md_matrix, X)]) _
              refine wp_run 3 (pc' := 57) (ls' := [some (.inr (.inr (r_Md, 0))), some (.inl nn), some (.inl c), some (.inl f), none, none, none, none]) (st' := [.inl (σ r_Md_matrixRows 0), .inl f]) (σ' := srl σ [(r_Md_matrix, X)]) rfl ?_
              refine wp_ic_ne rfl (by omega) (by omega) (fun h_12 => ?_) (fun h_12 => ?_)
              · show en_wp k_X12_rankOf 63 [some (.inr (.inr (r_Md, 0))), some (.inl nn), some (.inl c), some (.inl f), none, none, none, none] [] (srl σ [(r_Md_matrix, X)]) _
                refine wp_run 2 (pc' := 66) (ls' := [some (.inr (.inr (r_Md, 0))), some (.inl nn), some (.inl c), some (.inl f), some (.inl 0), none, none, none]) (st' := []) (σ' := srl σ [(r_Md_matrix, X)]) rfl ?_
                exact L_66 _ f 0 X (by omega) (by omega) (by assumption) (by omega) hX (fun i j a b a0 a1 => by rw [if_neg (by omega)]) (Nat.lt_succ_self _)
              · show en_wp k_X12_rankOf 60 [some (.inr (.inr (r_Md, 0))), some (.inl nn), some (.inl c), some (.inl f), none, none, none, none] [] (srl σ [(r_Md_matrix, X)]) _
                refine wp_run 3 (pc' := 4) (ls' := [some (.inr (.inr (r_Md, 0))), some (.inl nn), some (.inl (c + 1)), some (.inl f), none, none, none, none]) (st' := []) (σ' := srl σ [(r_Md_matrix, X)]) rfl ?_
                refine wp_sub (l := [some (.inr (.inr (r_Md, 0))), some (.inl nn), some (.inl (c + 1)), none, none, none, none, none]) (And.intro rfl (And.intro rfl (And.intro rfl trivial))) ?_
                exact ih_4 nn (c + 1) X (by omega) (by omega) hX (by exfalso; omega) (by omega)
            · show en_wp k_X12_rankOf 46 [some (.inr (.inr (r_Md, 0))), some (.inl nn), some (.inl c), some (.inl f), none, none, none, none] [] (srl σ [(r_Md_matrix, X)]) _
              refine wp_run 2 (pc' := 22) (ls' := [some (.inr (.inr (r_Md, 0))), some (.inl nn), some (.inl c), some (.inl (f + 1)), none, none, none, none]) (st' := []) (σ' := srl σ [(r_Md_matrix, X)]) rfl ?_
              exact ih_22 (f + 1) (by omega) (by omega) (by omega) (fun i a b => by rcases Int.lt_or_eq_of_le (show i ≤ f by omega) with h5 | h5 <;> first | exact hz i a h5 | (rw [h5]; assumption)) (by omega)
      refine wp_run 3 (pc' := 9) (ls' := [some (.inr (.inr (r_Md, 0))), some (.inl nn), some (.inl c), none, none, none, none, none]) (st' := [.inl (σ r_Md_matrixWide 0), .inl c]) (σ' := srl σ [(r_Md_matrix, X)]) rfl ?_
      refine wp_ic_ge rfl (by omega) (by omega) (fun h_13 => ?_) (fun h_13 => ?_)
      · show en_wp k_X12_rankOf 295 [some (.inr (.inr (r_Md, 0))), some (.inl nn), some (.inl c), none, none, none, none, none] [] (srl σ [(r_Md_matrix, X)]) _
        refine wp_run 1 (pc' := 296) (ls' := [some (.inr (.inr (r_Md, 0))), some (.inl nn), some (.inl c), none, none, none, none, none]) (st' := [.inl nn]) (σ' := srl σ [(r_Md_matrix, X)]) rfl ?_
        exact wp_iret rfl ⟨X, nn, rfl, srl_eq (l' := [(r_Md_matrix, X)]) (And.intro rfl trivial) (And.intro rfl trivial), ⟨el_fin hO.2.2.2 hel (by omega) (by omega), hX⟩⟩
      · show en_wp k_X12_rankOf 12 [some (.inr (.inr (r_Md, 0))), some (.inl nn), some (.inl c), none, none, none, none, none] [] (srl σ [(r_Md_matrix, X)]) _
        refine wp_run 3 (pc' := 17) (ls' := [some (.inr (.inr (r_Md, 0))), some (.inl nn), some (.inl c), none, none, none, none, none]) (st' := [.inl (σ r_Md_matrixRows 0), .inl nn]) (σ' := srl σ [(r_Md_matrix, X)]) rfl ?_
        refine wp_ic_ge rfl (by omega) (by omega) (fun h_14 => ?_) (fun h_14 => ?_)
        · show en_wp k_X12_rankOf 295 [some (.inr (.inr (r_Md, 0))), some (.inl nn), some (.inl c), none, none, none, none, none] [] (srl σ [(r_Md_matrix, X)]) _
          refine wp_run 1 (pc' := 296) (ls' := [some (.inr (.inr (r_Md, 0))), some (.inl nn), some (.inl c), none, none, none, none, none]) (st' := [.inl nn]) (σ' := srl σ [(r_Md_matrix, X)]) rfl ?_
          exact wp_iret rfl ⟨X, nn, rfl, srl_eq (l' := [(r_Md_matrix, X)]) (And.intro rfl trivial) (And.intro rfl trivial), ⟨el_fin hO.2.2.2 hel (by omega) (by omega), hX⟩⟩
        · show en_wp k_X12_rankOf 20 [some (.inr (.inr (r_Md, 0))), some (.inl nn), some (.inl c), none, none, none, none, none] [] (srl σ [(r_Md_matrix, X)]) _
          refine wp_run 2 (pc' := 22) (ls' := [some (.inr (.inr (r_Md, 0))), some (.inl nn), some (.inl c), some (.inl nn), none, none, none, none]) (st' := []) (σ' := srl σ [(r_Md_matrix, X)]) rfl ?_
          exact L_22 _ nn (by omega) (by omega) (by omega) (fun i a b => by omega) (Nat.lt_succ_self _)
  refine wp_run 4 (pc' := 4) (ls' := [some (.inr (.inr (r_Md, 0))), some (.inl 0), some (.inl 0), none, none, none, none, none]) (st' := []) (σ' := srl σ []) rfl ?_
  refine wp_mem (srl_eq (l' := [(r_Md_matrix, (σ r_Md_matrix))]) trivial (And.intro rfl trivial)) ?_
  exact L_4 _ 0 0 (σ r_Md_matrix) (by omega) (by omega) hX97 (el_0 hXp) (Nat.lt_succ_self _)
