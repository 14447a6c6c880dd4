/-! contracts of methods, walked (written by wip/whole/walk.py from the annotations ann_m53) -/
theorem ct_X12_waysIn (σ : en_m) (n : Int) (D : Int) (p : Int) (q : Int) (most : Int) (hI : mI σ n D p) (hr4 : q = 1 ∨ q = 4) (hmo : 1 ≤ most ∧ most ≤ 100000) : en_ct z_X12_waysIn [.inr (.inr (r_Md, 0)), .inl q, .inl most] σ (fun r σ' => ∃ (rr : Int), r = some (.inl rr) ∧ σ' = srl σ [] ∧ ((rr = -2 ∧ most < p ^ (q * n).toNat) ∨ (rr = p ^ (q * n).toNat ∧ rr ≤ most ∧ 1 ≤ rr))) := by
  show en_wp k_X12_waysIn 0 [some (.inr (.inr (r_Md, 0))), some (.inl q), some (.inl most), none, none, none] [] (srl σ []) (fun r σ' => ∃ (rr : Int), r = some (.inl rr) ∧ σ' = srl σ [] ∧ ((rr = -2 ∧ most < p ^ (q * n).toNat) ∨ (rr = p ^ (q * n).toNat ∧ rr ≤ most ∧ 1 ≤ rr)))
  have hI2 := hI
  obtain ⟨hO, hL, hn, hD, hp, hpw, hst⟩ := hI2
  obtain ⟨⟨hO1, hO2⟩, ⟨hO3, hO4⟩, hO5, hO6, hO7, hO8⟩ := id hO
  have hrn : 0 ≤ q * n ∧ q * n ≤ 16 := by rcases hr4 with h | h <;> rw [h] <;> omega
  have L_5 : ∀ (N : Nat) (wy : Int) (k : Int), (0 ≤ k ∧ k ≤ q * n) → (wy = p ^ k.toNat) → (1 ≤ wy ∧ wy ≤ most) → (q * n - k).toNat < N → en_wp k_X12_waysIn 5 [some (.inr (.inr (r_Md, 0))), some (.inl q), some (.inl most), some (.inr (.inl wy)), none, some (.inl k)] [] (srl σ []) (fun r σ' => ∃ (rr : Int), r = some (.inl rr) ∧ σ' = srl σ [] ∧ ((rr = -2 ∧ most < p ^ (q * n).toNat) ∨ (rr = p ^ (q * n).toNat ∧ rr ≤ most ∧ 1 ≤ rr))) := by
    intro N
    induction N with
    | zero => intro wy k; intros; omega
    | succ N ih_5 =>
      intro wy k hk hwy hwb hN_5
      have hm9 : wy * p ≤ 100000 * 97 := Int.mul_le_mul (by omega) (by omega) (by omega) (by decide)
      have hm8 : 1 * 1 ≤ wy * p := Int.mul_le_mul (by omega) (by omega) (by decide) (by omega)
      refine wp_run 6 (pc' := 16) (ls' := [some (.inr (.inr (r_Md, 0))), some (.inl q), some (.inl most), some (.inr (.inl wy)), none, some (.inl k)]) (st' := [.inl (σ r_Md_live 0), .inr (.inr (r_Md_letters, 0)), .inl q, .inl k]) (σ' := srl σ []) rfl ?_
      refine wp_iald0 rfl rfl (by omega) ?_
      show en_wp k_X12_waysIn 17 [some (.inr (.inr (r_Md, 0))), some (.inl q), some (.inl most), some (.inr (.inl wy)), none, some (.inl k)] [.inl (σ r_Md_letters (σ r_Md_live 0)), .inl q, .inl k] (srl σ []) _
      rw [hn]
      show en_wp k_X12_waysIn 17 [some (.inr (.inr (r_Md, 0))), some (.inl q), some (.inl most), some (.inr (.inl wy)), none, some (.inl k)] [.inl n, .inl q, .inl k] (srl σ []) _
      refine wp_run 1 (pc' := 18) (ls' := [some (.inr (.inr (r_Md, 0))), some (.inl q), some (.inl most), some (.inr (.inl wy)), none, some (.inl k)]) (st' := [.inl (q * n), .inl k]) (σ' := srl σ []) rfl ?_
      refine wp_ic_ge rfl (by omega) (by omega) (fun h_1 => ?_) (fun h_1 => ?_)
      · show en_wp k_X12_waysIn 50 [some (.inr (.inr (r_Md, 0))), some (.inl q), some (.inl most), some (.inr (.inl wy)), none, some (.inl k)] [] (srl σ []) _
        refine wp_run 2 (pc' := 52) (ls' := [some (.inr (.inr (r_Md, 0))), some (.inl q), some (.inl most), some (.inr (.inl wy)), none, some (.inl k)]) (st' := [.inl wy]) (σ' := srl σ []) rfl ?_
        exact wp_iret rfl ⟨wy, rfl, srl_eq (l' := []) trivial trivial, (.inr ⟨by rw [hwy, show k = q * n by omega], hwb.2, hwb.1⟩)⟩
      · show en_wp k_X12_waysIn 21 [some (.inr (.inr (r_Md, 0))), some (.inl q), some (.inl most), some (.inr (.inl wy)), none, some (.inl k)] [] (srl σ []) _
        refine wp_run 5 (pc' := 30) (ls' := [some (.inr (.inr (r_Md, 0))), some (.inl q), some (.inl most), some (.inr (.inl wy)), none, some (.inl k)]) (st' := [.inl (σ r_Md_live 0), .inr (.inr (r_Md_prime, 0)), .inr (.inl wy)]) (σ' := srl σ []) rfl ?_
        refine wp_iald0 rfl rfl (by omega) ?_
        show en_wp k_X12_waysIn 31 [some (.inr (.inr (r_Md, 0))), some (.inl q), some (.inl most), some (.inr (.inl wy)), none, some (.inl k)] [.inl (σ r_Md_prime (σ r_Md_live 0)), .inr (.inl wy)] (srl σ []) _
        rw [hp]
        show en_wp k_X12_waysIn 31 [some (.inr (.inr (r_Md, 0))), some (.inl q), some (.inl most), some (.inr (.inl wy)), none, some (.inl k)] [.inl p, .inr (.inl wy)] (srl σ []) _
        refine wp_i2l rfl (by omega) ?_
        show en_wp k_X12_waysIn 32 [some (.inr (.inr (r_Md, 0))), some (.inl q), some (.inl most), some (.inr (.inl wy)), none, some (.inl k)] [.inr (.inl p), .inr (.inl wy)] (srl σ []) _
        refine wp_run 4 (pc' := 36) (ls' := [some (.inr (.inr (r_Md, 0))), some (.inl q), some (.inl most), some (.inr (.inl (wy * p))), none, some (.inl k)]) (st' := [.inl most, .inr (.inl (wy * p))]) (σ' := srl σ []) rfl ?_
        refine wp_i2l rfl (by omega) ?_
        show en_wp k_X12_waysIn 37 [some (.inr (.inr (r_Md, 0))), some (.inl q), some (.inl most), some (.inr (.inl (wy * p))), none, some (.inl k)] [.inr (.inl most), .inr (.inl (wy * p))] (srl σ []) _
        refine wp_lc_le rfl (by omega) (by omega) rfl (fun h_2 => ?_) (fun h_2 => ?_)
        · show en_wp k_X12_waysIn 44 [some (.inr (.inr (r_Md, 0))), some (.inl q), some (.inl most), some (.inr (.inl (wy * p))), none, some (.inl k)] [] (srl σ []) _
          refine wp_run 2 (pc' := 5) (ls' := [some (.inr (.inr (r_Md, 0))), some (.inl q), some (.inl most), some (.inr (.inl (wy * p))), none, some (.inl (k + 1))]) (st' := []) (σ' := srl σ []) rfl ?_
          exact ih_5 (wy * p) (k + 1) (by omega) (by rw [hwy, pow_s hk.1]) (by omega) (by omega)
        · show en_wp k_X12_waysIn 41 [some (.inr (.inr (r_Md, 0))), some (.inl q), some (.inl most), some (.inr (.inl (wy * p))), none, some (.inl k)] [] (srl σ []) _
          refine wp_run 1 (pc' := 43) (ls' := [some (.inr (.inr (r_Md, 0))), some (.inl q), some (.inl most), some (.inr (.inl (wy * p))), none, some (.inl k)]) (st' := [.inl (-2)]) (σ' := srl σ []) rfl ?_
          exact wp_iret rfl ⟨(-2), rfl, srl_eq (l' := []) trivial trivial, (.inl ⟨rfl, by have h9 := pow_mono (p := p) (by omega) (show (k + 1).toNat ≤ (q * n).toNat by omega); rw [pow_s hk.1, ← hwy] at h9; omega⟩)⟩
  refine wp_run 4 (pc' := 5) (ls' := [some (.inr (.inr (r_Md, 0))), some (.inl q), some (.inl most), some (.inr (.inl 1)), none, some (.inl 0)]) (st' := []) (σ' := srl σ []) rfl ?_
  exact L_5 _ 1 0 (by omega) (Int.pow_zero p).symm (by omega) (Nat.lt_succ_self _)
theorem ct_X12_gives (σ : en_m) (n : Int) (D : Int) (p : Int) (way : Int) (q : Int) (hI : mI σ n D p) (hr4 : q = 1 ∨ q = 4) (hw : 0 ≤ way ∧ way ≤ 100000) (hgv : R97 ((σ r_Md_given))) : en_ct z_X12_gives [.inr (.inr (r_Md, 0)), .inl way, .inl q] σ (fun r σ' => ∃ (f_Md_given : Int → Int), r = none ∧ σ' = srl σ [(r_Md_given, f_Md_given)] ∧ (∀ k, 0 ≤ k → k < q * n → f_Md_given k = way / p ^ k.toNat % p) ∧ (R97 f_Md_given)) := by
  show en_wp k_X12_gives 0 [some (.inr (.inr (r_Md, 0))), some (.inl way), some (.inl q), none, none] [] (srl σ []) (fun r σ' => ∃ (f_Md_given : Int → Int), r = none ∧ σ' = srl σ [(r_Md_given, f_Md_given)] ∧ (∀ k, 0 ≤ k → k < q * n → f_Md_given k = way / p ^ k.toNat % p) ∧ (R97 f_Md_given))
  have hI2 := hI
  obtain ⟨hO, hL, hn, hD, hp, hpw, hst⟩ := hI2
  obtain ⟨⟨hO1, hO2⟩, ⟨hO3, hO4⟩, hO5, hO6, hO7, hO8⟩ := id hO
  have hrn : 0 ≤ q * n ∧ q * n ≤ 16 := by rcases hr4 with h | h <;> rw [h] <;> omega
  have L_5 : ∀ (N : Nat) (left : Int) (k : Int) (G : Int → Int), (0 ≤ k ∧ k ≤ q * n) → (left = way / p ^ k.toNat ∧ 0 ≤ left ∧ left ≤ 100000) → (∀ j, 0 ≤ j → j < k → G j = way / p ^ j.toNat % p) → (R97 G) → (q * n - k).toNat < N → en_wp k_X12_gives 5 [some (.inr (.inr (r_Md, 0))), some (.inl way), some (.inl q), some (.inl left), some (.inl k)] [] (srl σ [(r_Md_given, G)]) (fun r σ' => ∃ (f_Md_given : Int → Int), r = none ∧ σ' = srl σ [(r_Md_given, f_Md_given)] ∧ (∀ k, 0 ≤ k → k < q * n → f_Md_given k = way / p ^ k.toNat % p) ∧ (R97 f_Md_given)) := by
    intro N
    induction N with
    | zero => intro left k G; intros; omega
    | succ N ih_5 =>
      intro left k G hk hl hG hG7 hN_5
      refine wp_run 6 (pc' := 16) (ls' := [some (.inr (.inr (r_Md, 0))), some (.inl way), some (.inl q), some (.inl left), some (.inl k)]) (st' := [.inl (σ r_Md_live 0), .inr (.inr (r_Md_letters, 0)), .inl q, .inl k]) (σ' := srl σ [(r_Md_given, G)]) rfl ?_
      refine wp_iald0 rfl rfl (by omega) ?_
      show en_wp k_X12_gives 17 [some (.inr (.inr (r_Md, 0))), some (.inl way), some (.inl q), some (.inl left), some (.inl k)] [.inl (σ r_Md_letters (σ r_Md_live 0)), .inl q, .inl k] (srl σ [(r_Md_given, G)]) _
      rw [hn]
      show en_wp k_X12_gives 17 [some (.inr (.inr (r_Md, 0))), some (.inl way), some (.inl q), some (.inl left), some (.inl k)] [.inl n, .inl q, .inl k] (srl σ [(r_Md_given, G)]) _
      refine wp_run 1 (pc' := 18) (ls' := [some (.inr (.inr (r_Md, 0))), some (.inl way), some (.inl q), some (.inl left), some (.inl k)]) (st' := [.inl (q * n), .inl k]) (σ' := srl σ [(r_Md_given, G)]) rfl ?_
      refine wp_ic_ge rfl (by omega) (by omega) (fun h_1 => ?_) (fun h_1 => ?_)
      · show en_wp k_X12_gives 57 [some (.inr (.inr (r_Md, 0))), some (.inl way), some (.inl q), some (.inl left), some (.inl k)] [] (srl σ [(r_Md_given, G)]) _
        exact wp_vret rfl ⟨G, rfl, srl_eq (l' := [(r_Md_given, G)]) (And.intro rfl trivial) (And.intro rfl trivial), ⟨fun j a b => hG j a (by omega), hG7⟩⟩
      · show en_wp k_X12_gives 21 [some (.inr (.inr (r_Md, 0))), some (.inl way), some (.inl q), some (.inl left), some (.inl k)] [] (srl σ [(r_Md_given, G)]) _
        refine wp_run 8 (pc' := 36) (ls' := [some (.inr (.inr (r_Md, 0))), some (.inl way), some (.inl q), some (.inl left), some (.inl k)]) (st' := [.inl (σ r_Md_live 0), .inr (.inr (r_Md_prime, 0)), .inl left, .inl k, .inr (.inr (r_Md_given, 0))]) (σ' := srl σ [(r_Md_given, G)]) rfl ?_
        refine wp_iald0 rfl rfl (by omega) ?_
        show en_wp k_X12_gives 37 [some (.inr (.inr (r_Md, 0))), some (.inl way), some (.inl q), some (.inl left), some (.inl k)] [.inl (σ r_Md_prime (σ r_Md_live 0)), .inl left, .inl k, .inr (.inr (r_Md_given, 0))] (srl σ [(r_Md_given, G)]) _
        rw [hp]
        show en_wp k_X12_gives 37 [some (.inr (.inr (r_Md, 0))), some (.inl way), some (.inl q), some (.inl left), some (.inl k)] [.inl p, .inl left, .inl k, .inr (.inr (r_Md_given, 0))] (srl σ [(r_Md_given, G)]) _
        
        refine wp_iremp rfl (by omega) (by omega) ?_
        show en_wp k_X12_gives 38 [some (.inr (.inr (r_Md, 0))), some (.inl way), some (.inl q), some (.inl left), some (.inl k)] [.inl (left % p), .inl k, .inr (.inr (r_Md_given, 0))] (srl σ [(r_Md_given, G)]) _
        refine wp_iast0 rfl rfl (by omega) (wp_wr (l2 := [(r_Md_given, (up G k (left % p)))]) rfl ?_)
        show en_wp k_X12_gives 39 [some (.inr (.inr (r_Md, 0))), some (.inl way), some (.inl q), some (.inl left), some (.inl k)] [] (srl σ [(r_Md_given, (up G k (left % p)))]) _
        refine wp_run 5 (pc' := 48) (ls' := [some (.inr (.inr (r_Md, 0))), some (.inl way), some (.inl q), some (.inl left), some (.inl k)]) (st' := [.inl (σ r_Md_live 0), .inr (.inr (r_Md_prime, 0)), .inl left]) (σ' := srl σ [(r_Md_given, (up G k (left % p)))]) rfl ?_
        refine wp_iald0 rfl rfl (by omega) ?_
        show en_wp k_X12_gives 49 [some (.inr (.inr (r_Md, 0))), some (.inl way), some (.inl q), some (.inl left), some (.inl k)] [.inl (σ r_Md_prime (σ r_Md_live 0)), .inl left] (srl σ [(r_Md_given, (up G k (left % p)))]) _
        rw [hp]
        show en_wp k_X12_gives 49 [some (.inr (.inr (r_Md, 0))), some (.inl way), some (.inl q), some (.inl left), some (.inl k)] [.inl p, .inl left] (srl σ [(r_Md_given, (up G k (left % p)))]) _
        
        refine wp_idivp rfl (by omega) (by omega) ?_
        show en_wp k_X12_gives 50 [some (.inr (.inr (r_Md, 0))), some (.inl way), some (.inl q), some (.inl left), some (.inl k)] [.inl (left / p)] (srl σ [(r_Md_given, (up G k (left % p)))]) _
        refine wp_run 3 (pc' := 5) (ls' := [some (.inr (.inr (r_Md, 0))), some (.inl way), some (.inl q), some (.inl (left / p)), some (.inl (k + 1))]) (st' := []) (σ' := srl σ [(r_Md_given, (up G k (left % p)))]) rfl ?_
        exact ih_5 (left / p) (k + 1) (up G k (left % p)) (by omega) ⟨by rw [hl.1, pow_s hk.1, Int.ediv_ediv_of_nonneg (Int.pow_nonneg (by omega))], Int.ediv_nonneg hl.2.1 (by omega), Int.le_trans (Int.ediv_le_self _ hl.2.1) hl.2.2⟩ (fun j a b => by rcases Int.lt_or_eq_of_le (show j ≤ k by omega) with h5 | h5; rw [up_ne (by omega)]; exact hG j a h5; rw [h5, up_eq, hl.1]) (R97_up hG7 (d_97 hO.2.2.2 _)) (by omega)
  refine wp_run 4 (pc' := 5) (ls' := [some (.inr (.inr (r_Md, 0))), some (.inl way), some (.inl q), some (.inl way), some (.inl 0)]) (st' := []) (σ' := srl σ []) rfl ?_
  refine wp_mem (srl_eq (l' := [(r_Md_given, (σ r_Md_given))]) trivial (And.intro rfl trivial)) ?_
  exact L_5 _ way 0 (σ r_Md_given) (by omega) ⟨by rw [show ((0 : Int)).toNat = 0 from rfl, Int.pow_zero, Int.ediv_one], hw⟩ (fun j a b => by omega) hgv (Nat.lt_succ_self _)
theorem ct_X12_letterOf (σ : en_m) (n : Int) (D : Int) (p : Int) (d : Int) (w : Int) (i : Int) (hI : mI σ n D p) (hd : 1 ≤ d ∧ d ≤ D) (hw : 0 ≤ w ∧ w < sW n D d) (hi : 0 ≤ i ∧ i < d) : en_fn z_X12_letterOf [.inr (.inr (r_Md, 0)), .inl d, .inl w, .inl i] σ (.inl (w / sW n D (d - 1 - i) % n)) := by
  show en_wp k_X12_letterOf 0 [some (.inr (.inr (r_Md, 0))), some (.inl d), some (.inl w), some (.inl i)] [] (srl σ []) (fun r σ' => r = some (.inl (w / sW n D (d - 1 - i) % n)) ∧ σ' = σ)
  have hI2 := hI
  obtain ⟨hO, hL, hn, hD, hp, hpw, hst⟩ := hI2
  obtain ⟨⟨hO1, hO2⟩, ⟨hO3, hO4⟩, hO5, hO6, hO7, hO8⟩ := id hO
  have hpj := sW_p hO (show 0 ≤ d - 1 - i by omega) (show d - 1 - i ≤ d by omega) hw
  have hnp := (wd_lt hO hd.1 hw).1
  have hq9 := Int.ediv_nonneg hw.1 (show 0 ≤ sW n D (d - 1 - i) by omega)
  have hq8 := Int.ediv_le_self (b := sW n D (d - 1 - i)) hw.1
  have hwb := sW_b (k := d) hO
  refine wp_run 7 (pc' := 7) (ls' := [some (.inr (.inr (r_Md, 0))), some (.inl d), some (.inl w), some (.inl i)]) (st' := [.inl ((d - 1) - i), .inr (.inr (r_Md, 0)), .inl w]) (σ' := srl σ []) rfl ?_
  refine wp_fnv (v := .inl (sW n D ((d - 1) - i))) rfl rfl rfl rfl (ct_X12_wide σ n D p ((d - 1) - i) hI (by omega)) ?_
  show en_wp k_X12_letterOf 10 [some (.inr (.inr (r_Md, 0))), some (.inl d), some (.inl w), some (.inl i)] [.inl (sW n D ((d - 1) - i)), .inl w] (srl σ []) _
  have q_1 : 0 ≤ sW n D ((d - 1) - i) ∧ sW n D ((d - 1) - i) ≤ 256 := sW_b hO
  refine wp_idivp rfl (by omega) (by omega) ?_
  show en_wp k_X12_letterOf 11 [some (.inr (.inr (r_Md, 0))), some (.inl d), some (.inl w), some (.inl i)] [.inl (w / (sW n D ((d - 1) - i)))] (srl σ []) _
  refine wp_run 4 (pc' := 19) (ls' := [some (.inr (.inr (r_Md, 0))), some (.inl d), some (.inl w), some (.inl i)]) (st' := [.inl (σ r_Md_live 0), .inr (.inr (r_Md_letters, 0)), .inl (w / (sW n D ((d - 1) - i)))]) (σ' := srl σ []) rfl ?_
  refine wp_iald0 rfl rfl (by omega) ?_
  show en_wp k_X12_letterOf 20 [some (.inr (.inr (r_Md, 0))), some (.inl d), some (.inl w), some (.inl i)] [.inl (σ r_Md_letters (σ r_Md_live 0)), .inl (w / (sW n D ((d - 1) - i)))] (srl σ []) _
  rw [hn]
  show en_wp k_X12_letterOf 20 [some (.inr (.inr (r_Md, 0))), some (.inl d), some (.inl w), some (.inl i)] [.inl n, .inl (w / (sW n D ((d - 1) - i)))] (srl σ []) _
  refine wp_iremp rfl (by omega) (by omega) ?_
  show en_wp k_X12_letterOf 21 [some (.inr (.inr (r_Md, 0))), some (.inl d), some (.inl w), some (.inl i)] [.inl ((w / (sW n D ((d - 1) - i))) % n)] (srl σ []) _
  exact wp_iret rfl ⟨rfl, rfl⟩
