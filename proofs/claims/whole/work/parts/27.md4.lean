/-! contracts of methods, walked (written by wip/whole/walk.py from the annotations ann_md4) -/
theorem ct_X12_add (σ : en_m) (n : Int) (D : Int) (p : Int) (to : Int) (a : Int) (b : Int) (c : Int) (hI : mI σ n D p) (hE : R97 (σ r_Md_element)) (hkept : R97 ((σ r_Md_kept))) (h1 : i32 to) (h2 : i32 a) (h3 : i32 b) (h4 : i32 c) : en_ct z_X12_add [.inr (.inr (r_Md, 0)), .inl to, .inl a, .inl b, .inl c] σ (fun r σ' => ∃ (f_Md_kept : Int → Int), ∃ (f_Md_element : Int → Int), r = some (.inl (bI ((0 ≤ to ∧ to ≤ 5) ∧ (0 ≤ a ∧ a ≤ 5) ∧ (0 ≤ b ∧ b ≤ 5)))) ∧ σ' = srl σ [(r_Md_kept, f_Md_kept), (r_Md_element, f_Md_element)] ∧ (R97 f_Md_kept) ∧ (f_Md_element = if ((0 ≤ to ∧ to ≤ 5) ∧ (0 ≤ a ∧ a ≤ 5) ∧ (0 ≤ b ∧ b ≤ 5)) then seg ((σ r_Md_element)) (400 * to) (sS n D (D + 1)) (fun k => ((σ r_Md_element) (400 * a + k) + (c % p) * (σ r_Md_element) (400 * b + k)) % p) else (σ r_Md_element))) := by
  show en_wp k_X12_add 0 [some (.inr (.inr (r_Md, 0))), some (.inl to), some (.inl a), some (.inl b), some (.inl c), none, none] [] (srl σ []) (fun r σ' => ∃ (f_Md_kept : Int → Int), ∃ (f_Md_element : Int → Int), r = some (.inl (bI ((0 ≤ to ∧ to ≤ 5) ∧ (0 ≤ a ∧ a ≤ 5) ∧ (0 ≤ b ∧ b ≤ 5)))) ∧ σ' = srl σ [(r_Md_kept, f_Md_kept), (r_Md_element, f_Md_element)] ∧ (R97 f_Md_kept) ∧ (f_Md_element = if ((0 ≤ to ∧ to ≤ 5) ∧ (0 ≤ a ∧ a ≤ 5) ∧ (0 ≤ b ∧ b ≤ 5)) then seg ((σ r_Md_element)) (400 * to) (sS n D (D + 1)) (fun k => ((σ r_Md_element) (400 * a + k) + (c % p) * (σ r_Md_element) (400 * b + k)) % p) else (σ r_Md_element)))
  have hI2 := hI
  obtain ⟨hO, hL, hn, hD, hp, hpw, hst⟩ := hI2
  obtain ⟨⟨hO1, hO2⟩, ⟨hO3, hO4⟩, hO5, hO6, hO7, hO8⟩ := id hO
  have hAb := sS_b (k := D + 1) hO
  have L_97 : ∀ (N : Nat) (k : Int) (X : Int → Int) (Y : Int → Int), (((0 ≤ to ∧ to ≤ 5) ∧ (0 ≤ a ∧ a ≤ 5) ∧ (0 ≤ b ∧ b ≤ 5))) → (0 ≤ k ∧ k ≤ (sS n D (D + 1))) → (X = seg (σ r_Md_kept) 0 (sS n D (D + 1)) (fun k => (σ r_Md_element (400 * a + k) + c % p * σ r_Md_element (400 * b + k)) % p)) → (Y = seg (σ r_Md_element) (400 * to) k (fun k => (σ r_Md_element (400 * a + k) + c % p * σ r_Md_element (400 * b + k)) % p)) → ((sS n D (D + 1)) - k).toNat < N → en_wp k_X12_add 97 [some (.inr (.inr (r_Md, 0))), some (.inl to), some (.inl a), some (.inl b), some (.inl c), some (.inl (c % p)), some (.inl k)] [] (srl σ [(r_Md_kept, X), (r_Md_element, Y)]) (fun r σ' => ∃ (f_Md_kept : Int → Int), ∃ (f_Md_element : Int → Int), r = some (.inl (bI ((0 ≤ to ∧ to ≤ 5) ∧ (0 ≤ a ∧ a ≤ 5) ∧ (0 ≤ b ∧ b ≤ 5)))) ∧ σ' = srl σ [(r_Md_kept, f_Md_kept), (r_Md_element, f_Md_element)] ∧ (R97 f_Md_kept) ∧ (f_Md_element = if ((0 ≤ to ∧ to ≤ 5) ∧ (0 ≤ a ∧ a ≤ 5) ∧ (0 ≤ b ∧ b ≤ 5)) then seg ((σ r_Md_element)) (400 * to) (sS n D (D + 1)) (fun k => ((σ r_Md_element) (400 * a + k) + (c % p) * (σ r_Md_element) (400 * b + k)) % p) else (σ r_Md_element))) := by
    intro N
    induction N with
    | zero => intro k X Y; intros; omega
    | succ N ih_97 =>
      intro k X Y hOK hk hX hY hN_97
      refine wp_run 2 (pc' := 100) (ls' := [some (.inr (.inr (r_Md, 0))), some (.inl to), some (.inl a), some (.inl b), some (.inl c), some (.inl (c % p)), some (.inl k)]) (st' := [.inr (.inr (r_Md, 0)), .inl k]) (σ' := srl σ [(r_Md_kept, X), (r_Md_element, Y)]) rfl ?_
      refine wp_fnv (v := .inl (sS n D (D + 1))) rfl rfl rfl rfl (ct_X12_all (srl σ [(r_Md_kept, X), (r_Md_element, Y)]) n D p hI) ?_
      show en_wp k_X12_add 103 [some (.inr (.inr (r_Md, 0))), some (.inl to), some (.inl a), some (.inl b), some (.inl c), some (.inl (c % p)), some (.inl k)] [.inl (sS n D (D + 1)), .inl k] (srl σ [(r_Md_kept, X), (r_Md_element, Y)]) _
      have q_1 : 0 ≤ sS n D (D + 1) ∧ sS n D (D + 1) ≤ 364 := sS_b hO
      refine wp_ic_ge rfl (by omega) (by omega) (fun h_2 => ?_) (fun h_2 => ?_)
      · show en_wp k_X12_add 132 [some (.inr (.inr (r_Md, 0))), some (.inl to), some (.inl a), some (.inl b), some (.inl c), some (.inl (c % p)), some (.inl k)] [] (srl σ [(r_Md_kept, X), (r_Md_element, Y)]) _
        refine wp_run 1 (pc' := 133) (ls' := [some (.inr (.inr (r_Md, 0))), some (.inl to), some (.inl a), some (.inl b), some (.inl c), some (.inl (c % p)), some (.inl k)]) (st' := [.inl 1]) (σ' := srl σ [(r_Md_kept, X), (r_Md_element, Y)]) rfl ?_
        exact wp_zret rfl (.inr rfl) ⟨X, Y, (by first | rfl | (rw [bI_t (by omega)]) | (rw [bI_f (by omega)])), srl_eq (l' := [(r_Md_kept, X), (r_Md_element, Y)]) (And.intro rfl (And.intro rfl trivial)) (And.intro rfl (And.intro rfl trivial)), ⟨by rw [hX]; exact R97_seg hkept (fun x _ _ => by have := @sR_lt p (σ r_Md_element (400 * a + x) + c % p * σ r_Md_element (400 * b + x)) hO.2.2.2; omega), by rw [if_pos (by omega), hY, show k = sS n D (D + 1) by omega]⟩⟩
      · show en_wp k_X12_add 106 [some (.inr (.inr (r_Md, 0))), some (.inl to), some (.inl a), some (.inl b), some (.inl c), some (.inl (c % p)), some (.inl k)] [] (srl σ [(r_Md_kept, X), (r_Md_element, Y)]) _
        refine wp_run 10 (pc' := 124) (ls' := [some (.inr (.inr (r_Md, 0))), some (.inl to), some (.inl a), some (.inl b), some (.inl c), some (.inl (c % p)), some (.inl k)]) (st' := [.inl k, .inr (.inr (r_Md_kept, 0)), .inl ((400 * to) + k), .inr (.inr (r_Md_element, 0))]) (σ' := srl σ [(r_Md_kept, X), (r_Md_element, Y)]) rfl ?_
        refine wp_iald0 rfl rfl (by omega) ?_
        show en_wp k_X12_add 125 [some (.inr (.inr (r_Md, 0))), some (.inl to), some (.inl a), some (.inl b), some (.inl c), some (.inl (c % p)), some (.inl k)] [.inl (X k), .inl ((400 * to) + k), .inr (.inr (r_Md_element, 0))] (srl σ [(r_Md_kept, X), (r_Md_element, Y)]) _
        refine wp_iast0 rfl rfl (by omega) (wp_wr (l2 := [(r_Md_kept, X), (r_Md_element, (up Y ((400 * to) + k) (X k)))]) rfl ?_)
        show en_wp k_X12_add 126 [some (.inr (.inr (r_Md, 0))), some (.inl to), some (.inl a), some (.inl b), some (.inl c), some (.inl (c % p)), some (.inl k)] [] (srl σ [(r_Md_kept, X), (r_Md_element, (up Y ((400 * to) + k) (X k)))]) _
        refine wp_run 2 (pc' := 97) (ls' := [some (.inr (.inr (r_Md, 0))), some (.inl to), some (.inl a), some (.inl b), some (.inl c), some (.inl (c % p)), some (.inl (k + 1))]) (st' := []) (σ' := srl σ [(r_Md_kept, X), (r_Md_element, (up Y ((400 * to) + k) (X k)))]) rfl ?_
        exact ih_97 (k + 1) X (up Y ((400 * to) + k) (X k)) hOK (by omega) hX (by rw [hY]; exact seg_up hk.1 (by rw [hX, seg_in0 (by omega)])) (by omega)
  have L_35 : ∀ (N : Nat) (k : Int) (X : Int → Int), (((0 ≤ to ∧ to ≤ 5) ∧ (0 ≤ a ∧ a ≤ 5) ∧ (0 ≤ b ∧ b ≤ 5))) → (0 ≤ k ∧ k ≤ (sS n D (D + 1))) → (X = seg (σ r_Md_kept) 0 k (fun k => (σ r_Md_element (400 * a + k) + c % p * σ r_Md_element (400 * b + k)) % p)) → ((sS n D (D + 1)) - k).toNat < N → en_wp k_X12_add 35 [some (.inr (.inr (r_Md, 0))), some (.inl to), some (.inl a), some (.inl b), some (.inl c), some (.inl (c % p)), some (.inl k)] [] (srl σ [(r_Md_kept, X)]) (fun r σ' => ∃ (f_Md_kept : Int → Int), ∃ (f_Md_element : Int → Int), r = some (.inl (bI ((0 ≤ to ∧ to ≤ 5) ∧ (0 ≤ a ∧ a ≤ 5) ∧ (0 ≤ b ∧ b ≤ 5)))) ∧ σ' = srl σ [(r_Md_kept, f_Md_kept), (r_Md_element, f_Md_element)] ∧ (R97 f_Md_kept) ∧ (f_Md_element = if ((0 ≤ to ∧ to ≤ 5) ∧ (0 ≤ a ∧ a ≤ 5) ∧ (0 ≤ b ∧ b ≤ 5)) then seg ((σ r_Md_element)) (400 * to) (sS n D (D + 1)) (fun k => ((σ r_Md_element) (400 * a + k) + (c % p) * (σ r_Md_element) (400 * b + k)) % p) else (σ r_Md_element))) := by
    intro N
    induction N with
    | zero => intro k X; intros; omega
    | succ N ih_35 =>
      intro k X hOK hk hX hN_35
      have hcb := @sR_lt p c hO.2.2.2
      refine wp_run 2 (pc' := 38) (ls' := [some (.inr (.inr (r_Md, 0))), some (.inl to), some (.inl a), some (.inl b), some (.inl c), some (.inl (c % p)), some (.inl k)]) (st' := [.inr (.inr (r_Md, 0)), .inl k]) (σ' := srl σ [(r_Md_kept, X)]) rfl ?_
      refine wp_fnv (v := .inl (sS n D (D + 1))) rfl rfl rfl rfl (ct_X12_all (srl σ [(r_Md_kept, X)]) n D p hI) ?_
      show en_wp k_X12_add 41 [some (.inr (.inr (r_Md, 0))), some (.inl to), some (.inl a), some (.inl b), some (.inl c), some (.inl (c % p)), some (.inl k)] [.inl (sS n D (D + 1)), .inl k] (srl σ [(r_Md_kept, X)]) _
      have q_3 : 0 ≤ sS n D (D + 1) ∧ sS n D (D + 1) ≤ 364 := sS_b hO
      refine wp_ic_ge rfl (by omega) (by omega) (fun h_4 => ?_) (fun h_4 => ?_)
      · show en_wp k_X12_add 94 [some (.inr (.inr (r_Md, 0))), some (.inl to), some (.inl a), some (.inl b), some (.inl c), some (.inl (c % p)), some (.inl k)] [] (srl σ [(r_Md_kept, X)]) _
        refine wp_run 2 (pc' := 97) (ls' := [some (.inr (.inr (r_Md, 0))), some (.inl to), some (.inl a), some (.inl b), some (.inl c), some (.inl (c % p)), some (.inl 0)]) (st' := []) (σ' := srl σ [(r_Md_kept, X)]) rfl ?_
        refine wp_mem (srl_eq (l' := [(r_Md_kept, X), (r_Md_element, (σ r_Md_element))]) (And.intro rfl trivial) (And.intro rfl (And.intro rfl trivial))) ?_
        exact L_97 _ 0 X (σ r_Md_element) hOK (by omega) (by rw [hX, show k = sS n D (D + 1) by omega]) (seg_0 _ _ _).symm (Nat.lt_succ_self _)
      · show en_wp k_X12_add 44 [some (.inr (.inr (r_Md, 0))), some (.inl to), some (.inl a), some (.inl b), some (.inl c), some (.inl (c % p)), some (.inl k)] [] (srl σ [(r_Md_kept, X)]) _
        refine wp_run 11 (pc' := 63) (ls' := [some (.inr (.inr (r_Md, 0))), some (.inl to), some (.inl a), some (.inl b), some (.inl c), some (.inl (c % p)), some (.inl k)]) (st' := [.inl ((400 * a) + k), .inr (.inr (r_Md_element, 0)), .inr (.inr (r_Md, 0)), .inl k, .inr (.inr (r_Md_kept, 0))]) (σ' := srl σ [(r_Md_kept, X)]) rfl ?_
        refine wp_iald0 rfl rfl (by omega) ?_
        show en_wp k_X12_add 64 [some (.inr (.inr (r_Md, 0))), some (.inl to), some (.inl a), some (.inl b), some (.inl c), some (.inl (c % p)), some (.inl k)] [.inl (σ r_Md_element ((400 * a) + k)), .inr (.inr (r_Md, 0)), .inl k, .inr (.inr (r_Md_kept, 0))] (srl σ [(r_Md_kept, X)]) _
        have hea := hE (400 * a + k)
        have heb := hE (400 * b + k)
        have hm1 := m97 (a := c % p) (b := σ r_Md_element (400 * b + k)) (by omega) heb
        refine wp_i2l rfl (by omega) ?_
        show en_wp k_X12_add 65 [some (.inr (.inr (r_Md, 0))), some (.inl to), some (.inl a), some (.inl b), some (.inl c), some (.inl (c % p)), some (.inl k)] [.inr (.inl (σ r_Md_element ((400 * a) + k))), .inr (.inr (r_Md, 0)), .inl k, .inr (.inr (r_Md_kept, 0))] (srl σ [(r_Md_kept, X)]) _
        refine wp_run 1 (pc' := 67) (ls' := [some (.inr (.inr (r_Md, 0))), some (.inl to), some (.inl a), some (.inl b), some (.inl c), some (.inl (c % p)), some (.inl k)]) (st' := [.inl (c % p), .inr (.inl (σ r_Md_element ((400 * a) + k))), .inr (.inr (r_Md, 0)), .inl k, .inr (.inr (r_Md_kept, 0))]) (σ' := srl σ [(r_Md_kept, X)]) rfl ?_
        refine wp_i2l rfl (by omega) ?_
        show en_wp k_X12_add 68 [some (.inr (.inr (r_Md, 0))), some (.inl to), some (.inl a), some (.inl b), some (.inl c), some (.inl (c % p)), some (.inl k)] [.inr (.inl (c % p)), .inr (.inl (σ r_Md_element ((400 * a) + k))), .inr (.inr (r_Md, 0)), .inl k, .inr (.inr (r_Md_kept, 0))] (srl σ [(r_Md_kept, X)]) _
        refine wp_run 7 (pc' := 80) (ls' := [some (.inr (.inr (r_Md, 0))), some (.inl to), some (.inl a), some (.inl b), some (.inl c), some (.inl (c % p)), some (.inl k)]) (st' := [.inl ((400 * b) + k), .inr (.inr (r_Md_element, 0)), .inr (.inl (c % p)), .inr (.inl (σ r_Md_element ((400 * a) + k))), .inr (.inr (r_Md, 0)), .inl k, .inr (.inr (r_Md_kept, 0))]) (σ' := srl σ [(r_Md_kept, X)]) rfl ?_
        refine wp_iald0 rfl rfl (by omega) ?_
        show en_wp k_X12_add 81 [some (.inr (.inr (r_Md, 0))), some (.inl to), some (.inl a), some (.inl b), some (.inl c), some (.inl (c % p)), some (.inl k)] [.inl (σ r_Md_element ((400 * b) + k)), .inr (.inl (c % p)), .inr (.inl (σ r_Md_element ((400 * a) + k))), .inr (.inr (r_Md, 0)), .inl k, .inr (.inr (r_Md_kept, 0))] (srl σ [(r_Md_kept, X)]) _
        refine wp_i2l rfl (by omega) ?_
        show en_wp k_X12_add 82 [some (.inr (.inr (r_Md, 0))), some (.inl to), some (.inl a), some (.inl b), some (.inl c), some (.inl (c % p)), some (.inl k)] [.inr (.inl (σ r_Md_element ((400 * b) + k))), .inr (.inl (c % p)), .inr (.inl (σ r_Md_element ((400 * a) + k))), .inr (.inr (r_Md, 0)), .inl k, .inr (.inr (r_Md_kept, 0))] (srl σ [(r_Md_kept, X)]) _
        refine wp_run 2 (pc' := 84) (ls' := [some (.inr (.inr (r_Md, 0))), some (.inl to), some (.inl a), some (.inl b), some (.inl c), some (.inl (c % p)), some (.inl k)]) (st' := [.inr (.inl ((σ r_Md_element ((400 * a) + k)) + ((c % p) * (σ r_Md_element ((400 * b) + k))))), .inr (.inr (r_Md, 0)), .inl k, .inr (.inr (r_Md_kept, 0))]) (σ' := srl σ [(r_Md_kept, X)]) rfl ?_
        refine wp_fnv (v := .inl (((σ r_Md_element ((400 * a) + k)) + ((c % p) * (σ r_Md_element ((400 * b) + k)))) % p)) rfl rfl rfl rfl (ct_X12_rest (srl σ [(r_Md_kept, X)]) n D p ((σ r_Md_element ((400 * a) + k)) + ((c % p) * (σ r_Md_element ((400 * b) + k)))) hI (by omega)) ?_
        show en_wp k_X12_add 87 [some (.inr (.inr (r_Md, 0))), some (.inl to), some (.inl a), some (.inl b), some (.inl c), some (.inl (c % p)), some (.inl k)] [.inl (((σ r_Md_element ((400 * a) + k)) + ((c % p) * (σ r_Md_element ((400 * b) + k)))) % p), .inl k, .inr (.inr (r_Md_kept, 0))] (srl σ [(r_Md_kept, X)]) _
        have q_5 : 0 ≤ ((σ r_Md_element ((400 * a) + k)) + ((c % p) * (σ r_Md_element ((400 * b) + k)))) % p ∧ ((σ r_Md_element ((400 * a) + k)) + ((c % p) * (σ r_Md_element ((400 * b) + k)))) % p < p := sR_lt hO.2.2.2
        refine wp_iast0 rfl rfl (by omega) (wp_wr (l2 := [(r_Md_kept, (up X k (((σ r_Md_element ((400 * a) + k)) + ((c % p) * (σ r_Md_element ((400 * b) + k)))) % p)))]) rfl ?_)
        show en_wp k_X12_add 88 [some (.inr (.inr (r_Md, 0))), some (.inl to), some (.inl a), some (.inl b), some (.inl c), some (.inl (c % p)), some (.inl k)] [] (srl σ [(r_Md_kept, (up X k (((σ r_Md_element ((400 * a) + k)) + ((c % p) * (σ r_Md_element ((400 * b) + k)))) % p)))]) _
        refine wp_run 2 (pc' := 35) (ls' := [some (.inr (.inr (r_Md, 0))), some (.inl to), some (.inl a), some (.inl b), some (.inl c), some (.inl (c % p)), some (.inl (k + 1))]) (st' := []) (σ' := srl σ [(r_Md_kept, (up X k (((σ r_Md_element ((400 * a) + k)) + ((c % p) * (σ r_Md_element ((400 * b) + k)))) % p)))]) rfl ?_
        exact ih_35 (k + 1) (up X k (((σ r_Md_element ((400 * a) + k)) + ((c % p) * (σ r_Md_element ((400 * b) + k)))) % p)) hOK (by omega) (by rw [hX]; exact seg_up0 hk.1 rfl) (by omega)
  refine wp_run 1 (pc' := 1) (ls' := [some (.inr (.inr (r_Md, 0))), some (.inl to), some (.inl a), some (.inl b), some (.inl c), none, none]) (st' := [.inl to]) (σ' := srl σ []) rfl ?_
  refine wp_fns (v := .inl (bI (0 ≤ to ∧ to ≤ 5))) rfl rfl rfl rfl rfl (ct_X12_isElement σ to (by omega)) ?_
  show en_wp k_X12_add 4 [some (.inr (.inr (r_Md, 0))), some (.inl to), some (.inl a), some (.inl b), some (.inl c), none, none] [.inl (bI (0 ≤ to ∧ to ≤ 5))] (srl σ []) _
  refine wp_if_eqb rfl (fun h_6 => ?_) (fun h_6 => ?_)
  · show en_wp k_X12_add 21 [some (.inr (.inr (r_Md, 0))), some (.inl to), some (.inl a), some (.inl b), some (.inl c), none, none] [] (srl σ []) _
    refine wp_run 1 (pc' := 22) (ls' := [some (.inr (.inr (r_Md, 0))), some (.inl to), some (.inl a), some (.inl b), some (.inl c), none, none]) (st' := [.inl 0]) (σ' := srl σ []) rfl ?_
    exact wp_zret rfl (.inl rfl) ⟨(σ r_Md_kept), (σ r_Md_element), (by first | rfl | (rw [bI_t (by omega)]) | (rw [bI_f (by omega)])), srl_eq (l' := [(r_Md_kept, σ r_Md_kept), (r_Md_element, σ r_Md_element)]) trivial (And.intro rfl (And.intro rfl trivial)), ⟨hkept, by rw [if_neg (by omega)]⟩⟩
  · show en_wp k_X12_add 7 [some (.inr (.inr (r_Md, 0))), some (.inl to), some (.inl a), some (.inl b), some (.inl c), none, none] [] (srl σ []) _
    refine wp_run 1 (pc' := 8) (ls' := [some (.inr (.inr (r_Md, 0))), some (.inl to), some (.inl a), some (.inl b), some (.inl c), none, none]) (st' := [.inl a]) (σ' := srl σ []) rfl ?_
    refine wp_fns (v := .inl (bI (0 ≤ a ∧ a ≤ 5))) rfl rfl rfl rfl rfl (ct_X12_isElement σ a (by omega)) ?_
    show en_wp k_X12_add 11 [some (.inr (.inr (r_Md, 0))), some (.inl to), some (.inl a), some (.inl b), some (.inl c), none, none] [.inl (bI (0 ≤ a ∧ a ≤ 5))] (srl σ []) _
    refine wp_if_eqb rfl (fun h_7 => ?_) (fun h_7 => ?_)
    · show en_wp k_X12_add 21 [some (.inr (.inr (r_Md, 0))), some (.inl to), some (.inl a), some (.inl b), some (.inl c), none, none] [] (srl σ []) _
      refine wp_run 1 (pc' := 22) (ls' := [some (.inr (.inr (r_Md, 0))), some (.inl to), some (.inl a), some (.inl b), some (.inl c), none, none]) (st' := [.inl 0]) (σ' := srl σ []) rfl ?_
      exact wp_zret rfl (.inl rfl) ⟨(σ r_Md_kept), (σ r_Md_element), (by first | rfl | (rw [bI_t (by omega)]) | (rw [bI_f (by omega)])), srl_eq (l' := [(r_Md_kept, σ r_Md_kept), (r_Md_element, σ r_Md_element)]) trivial (And.intro rfl (And.intro rfl trivial)), ⟨hkept, by rw [if_neg (by omega)]⟩⟩
    · show en_wp k_X12_add 14 [some (.inr (.inr (r_Md, 0))), some (.inl to), some (.inl a), some (.inl b), some (.inl c), none, none] [] (srl σ []) _
      refine wp_run 1 (pc' := 15) (ls' := [some (.inr (.inr (r_Md, 0))), some (.inl to), some (.inl a), some (.inl b), some (.inl c), none, none]) (st' := [.inl b]) (σ' := srl σ []) rfl ?_
      refine wp_fns (v := .inl (bI (0 ≤ b ∧ b ≤ 5))) rfl rfl rfl rfl rfl (ct_X12_isElement σ b (by omega)) ?_
      show en_wp k_X12_add 18 [some (.inr (.inr (r_Md, 0))), some (.inl to), some (.inl a), some (.inl b), some (.inl c), none, none] [.inl (bI (0 ≤ b ∧ b ≤ 5))] (srl σ []) _
      refine wp_if_neb rfl (fun h_8 => ?_) (fun h_8 => ?_)
      · show en_wp k_X12_add 23 [some (.inr (.inr (r_Md, 0))), some (.inl to), some (.inl a), some (.inl b), some (.inl c), none, none] [] (srl σ []) _
        refine wp_run 2 (pc' := 26) (ls' := [some (.inr (.inr (r_Md, 0))), some (.inl to), some (.inl a), some (.inl b), some (.inl c), none, none]) (st' := [.inl c, .inr (.inr (r_Md, 0))]) (σ' := srl σ []) rfl ?_
        refine wp_i2l rfl (by omega) ?_
        show en_wp k_X12_add 27 [some (.inr (.inr (r_Md, 0))), some (.inl to), some (.inl a), some (.inl b), some (.inl c), none, none] [.inr (.inl c), .inr (.inr (r_Md, 0))] (srl σ []) _
        refine wp_fnv (v := .inl (c % p)) rfl rfl rfl rfl (ct_X12_rest σ n D p c hI (by omega)) ?_
        show en_wp k_X12_add 30 [some (.inr (.inr (r_Md, 0))), some (.inl to), some (.inl a), some (.inl b), some (.inl c), none, none] [.inl (c % p)] (srl σ []) _
        have q_9 : 0 ≤ c % p ∧ c % p < p := sR_lt hO.2.2.2
        refine wp_run 3 (pc' := 35) (ls' := [some (.inr (.inr (r_Md, 0))), some (.inl to), some (.inl a), some (.inl b), some (.inl c), some (.inl (c % p)), some (.inl 0)]) (st' := []) (σ' := srl σ []) rfl ?_
        refine wp_mem (srl_eq (l' := [(r_Md_kept, (σ r_Md_kept))]) trivial (And.intro rfl trivial)) ?_
        exact L_35 _ 0 (σ r_Md_kept) (by omega) (by omega) (seg_0 _ _ _).symm (Nat.lt_succ_self _)
      · show en_wp k_X12_add 21 [some (.inr (.inr (r_Md, 0))), some (.inl to), some (.inl a), some (.inl b), some (.inl c), none, none] [] (srl σ []) _
        refine wp_run 1 (pc' := 22) (ls' := [some (.inr (.inr (r_Md, 0))), some (.inl to), some (.inl a), some (.inl b), some (.inl c), none, none]) (st' := [.inl 0]) (σ' := srl σ []) rfl ?_
        exact wp_zret rfl (.inl rfl) ⟨(σ r_Md_kept), (σ r_Md_element), (by first | rfl | (rw [bI_t (by omega)]) | (rw [bI_f (by omega)])), srl_eq (l' := [(r_Md_kept, σ r_Md_kept), (r_Md_element, σ r_Md_element)]) trivial (And.intro rfl (And.intro rfl trivial)), ⟨hkept, by rw [if_neg (by omega)]⟩⟩
theorem ct_X12_hold (σ : en_m) (s : Int) (h1 : i32 s) : en_ct z_X12_hold [.inr (.inr (r_Md, 0)), .inl s] σ (fun r σ' => ∃ (f_Md_isHeld : Int → Int), ∃ (f_Md_held : Int → Int), r = some (.inl (bI (0 ≤ s ∧ s ≤ 2))) ∧ σ' = srl σ [(r_Md_isHeld, f_Md_isHeld), (r_Md_held, f_Md_held)] ∧ (f_Md_isHeld = if 0 ≤ s ∧ s ≤ 2 then up ((σ r_Md_isHeld)) s 1 else (σ r_Md_isHeld)) ∧ (f_Md_held = if 0 ≤ s ∧ s ≤ 2 then seg ((σ r_Md_held)) (2400 * s) 2400 (fun k => (σ r_Md_element) k) else (σ r_Md_held))) := by
  show en_wp k_X12_hold 0 [some (.inr (.inr (r_Md, 0))), some (.inl s), none] [] (srl σ []) (fun r σ' => ∃ (f_Md_isHeld : Int → Int), ∃ (f_Md_held : Int → Int), r = some (.inl (bI (0 ≤ s ∧ s ≤ 2))) ∧ σ' = srl σ [(r_Md_isHeld, f_Md_isHeld), (r_Md_held, f_Md_held)] ∧ (f_Md_isHeld = if 0 ≤ s ∧ s ≤ 2 then up ((σ r_Md_isHeld)) s 1 else (σ r_Md_isHeld)) ∧ (f_Md_held = if 0 ≤ s ∧ s ≤ 2 then seg ((σ r_Md_held)) (2400 * s) 2400 (fun k => (σ r_Md_element) k) else (σ r_Md_held)))
  have L_20 : ∀ (N : Nat) (k : Int) (Z : Int → Int) (X : Int → Int), (0 ≤ s ∧ s ≤ 2) → (0 ≤ k ∧ k ≤ 2400) → (X = seg (σ r_Md_held) (2400 * s) k (fun k => σ r_Md_element k)) → (Z = up (σ r_Md_isHeld) s 1) → (2400 - k).toNat < N → en_wp k_X12_hold 20 [some (.inr (.inr (r_Md, 0))), some (.inl s), some (.inl k)] [] (srl σ [(r_Md_isHeld, Z), (r_Md_held, X)]) (fun r σ' => ∃ (f_Md_isHeld : Int → Int), ∃ (f_Md_held : Int → Int), r = some (.inl (bI (0 ≤ s ∧ s ≤ 2))) ∧ σ' = srl σ [(r_Md_isHeld, f_Md_isHeld), (r_Md_held, f_Md_held)] ∧ (f_Md_isHeld = if 0 ≤ s ∧ s ≤ 2 then up ((σ r_Md_isHeld)) s 1 else (σ r_Md_isHeld)) ∧ (f_Md_held = if 0 ≤ s ∧ s ≤ 2 then seg ((σ r_Md_held)) (2400 * s) 2400 (fun k => (σ r_Md_element) k) else (σ r_Md_held))) := by
    intro N
    induction N with
    | zero => intro k Z X; intros; omega
    | succ N ih_20 =>
      intro k Z X hs hk hX hZ hN_20
      refine wp_run 2 (pc' := 24) (ls' := [some (.inr (.inr (r_Md, 0))), some (.inl s), some (.inl k)]) (st' := [.inl 2400, .inl k]) (σ' := srl σ [(r_Md_isHeld, Z), (r_Md_held, X)]) rfl ?_
      refine wp_ic_ge rfl (by omega) (by omega) (fun h_1 => ?_) (fun h_1 => ?_)
      · show en_wp k_X12_hold 51 [some (.inr (.inr (r_Md, 0))), some (.inl s), some (.inl k)] [] (srl σ [(r_Md_isHeld, Z), (r_Md_held, X)]) _
        refine wp_run 1 (pc' := 52) (ls' := [some (.inr (.inr (r_Md, 0))), some (.inl s), some (.inl k)]) (st' := [.inl 1]) (σ' := srl σ [(r_Md_isHeld, Z), (r_Md_held, X)]) rfl ?_
        exact wp_zret rfl (.inr rfl) ⟨Z, X, (by first | rfl | (rw [bI_t (by omega)]) | (rw [bI_f (by omega)])), srl_eq (l' := [(r_Md_isHeld, Z), (r_Md_held, X)]) (And.intro rfl (And.intro rfl trivial)) (And.intro rfl (And.intro rfl trivial)), ⟨by first | rw [if_pos (by omega), hZ] | rw [if_neg (by omega)], by first | rw [if_pos (by omega), hX, show k = 2400 by omega] | rw [if_neg (by omega)]⟩⟩
      · show en_wp k_X12_hold 27 [some (.inr (.inr (r_Md, 0))), some (.inl s), some (.inl k)] [] (srl σ [(r_Md_isHeld, Z), (r_Md_held, X)]) _
        refine wp_run 10 (pc' := 43) (ls' := [some (.inr (.inr (r_Md, 0))), some (.inl s), some (.inl k)]) (st' := [.inl k, .inr (.inr (r_Md_element, 0)), .inl ((2400 * s) + k), .inr (.inr (r_Md_held, 0))]) (σ' := srl σ [(r_Md_isHeld, Z), (r_Md_held, X)]) rfl ?_
        refine wp_iald0 rfl rfl (by omega) ?_
        show en_wp k_X12_hold 44 [some (.inr (.inr (r_Md, 0))), some (.inl s), some (.inl k)] [.inl (σ r_Md_element k), .inl ((2400 * s) + k), .inr (.inr (r_Md_held, 0))] (srl σ [(r_Md_isHeld, Z), (r_Md_held, X)]) _
        refine wp_iast0 rfl rfl (by omega) (wp_wr (l2 := [(r_Md_isHeld, Z), (r_Md_held, (up X ((2400 * s) + k) (σ r_Md_element k)))]) rfl ?_)
        show en_wp k_X12_hold 45 [some (.inr (.inr (r_Md, 0))), some (.inl s), some (.inl k)] [] (srl σ [(r_Md_isHeld, Z), (r_Md_held, (up X ((2400 * s) + k) (σ r_Md_element k)))]) _
        refine wp_run 2 (pc' := 20) (ls' := [some (.inr (.inr (r_Md, 0))), some (.inl s), some (.inl (k + 1))]) (st' := []) (σ' := srl σ [(r_Md_isHeld, Z), (r_Md_held, (up X ((2400 * s) + k) (σ r_Md_element k)))]) rfl ?_
        exact ih_20 (k + 1) Z (up X ((2400 * s) + k) (σ r_Md_element k)) (by omega) (by omega) (by rw [hX]; exact seg_up hk.1 rfl) hZ (by omega)
  refine wp_run 3 (pc' := 3) (ls' := [some (.inr (.inr (r_Md, 0))), some (.inl s), none]) (st' := [.inl 2, .inl 0, .inl s]) (σ' := srl σ []) rfl ?_
  refine wp_fns (v := .inl (bI (0 ≤ s ∧ s ≤ 2))) rfl rfl rfl rfl rfl (ct_X12_in σ s 0 2 (by omega) (by omega) (by omega)) ?_
  show en_wp k_X12_hold 6 [some (.inr (.inr (r_Md, 0))), some (.inl s), none] [.inl (bI (0 ≤ s ∧ s ≤ 2))] (srl σ []) _
  refine wp_if_neb rfl (fun h_2 => ?_) (fun h_2 => ?_)
  · show en_wp k_X12_hold 11 [some (.inr (.inr (r_Md, 0))), some (.inl s), none] [] (srl σ []) _
    refine wp_run 4 (pc' := 17) (ls' := [some (.inr (.inr (r_Md, 0))), some (.inl s), none]) (st' := [.inl 1, .inl s, .inr (.inr (r_Md_isHeld, 0))]) (σ' := srl σ []) rfl ?_
    refine wp_zast0 rfl rfl (by omega) (by omega) (wp_wr (l2 := [(r_Md_isHeld, (up (σ r_Md_isHeld) s 1))]) rfl ?_)
    show en_wp k_X12_hold 18 [some (.inr (.inr (r_Md, 0))), some (.inl s), none] [] (srl σ [(r_Md_isHeld, (up (σ r_Md_isHeld) s 1))]) _
    refine wp_run 2 (pc' := 20) (ls' := [some (.inr (.inr (r_Md, 0))), some (.inl s), some (.inl 0)]) (st' := []) (σ' := srl σ [(r_Md_isHeld, (up (σ r_Md_isHeld) s 1))]) rfl ?_
    refine wp_mem (srl_eq (l' := [(r_Md_isHeld, (up (σ r_Md_isHeld) s 1)), (r_Md_held, (σ r_Md_held))]) (And.intro rfl trivial) (And.intro rfl (And.intro rfl trivial))) ?_
    exact L_20 _ 0 (up (σ r_Md_isHeld) s 1) (σ r_Md_held) (by omega) (by omega) (seg_0 _ _ _).symm rfl (Nat.lt_succ_self _)
  · show en_wp k_X12_hold 9 [some (.inr (.inr (r_Md, 0))), some (.inl s), none] [] (srl σ []) _
    refine wp_run 1 (pc' := 10) (ls' := [some (.inr (.inr (r_Md, 0))), some (.inl s), none]) (st' := [.inl 0]) (σ' := srl σ []) rfl ?_
    exact wp_zret rfl (.inl rfl) ⟨(σ r_Md_isHeld), (σ r_Md_held), (by first | rfl | (rw [bI_t (by omega)]) | (rw [bI_f (by omega)])), srl_eq (l' := [(r_Md_isHeld, σ r_Md_isHeld), (r_Md_held, σ r_Md_held)]) trivial (And.intro rfl (And.intro rfl trivial)), ⟨by first | rw [if_pos (by omega), hZ] | rw [if_neg (by omega)], by first | rw [if_pos (by omega), hX, show k = 2400 by omega] | rw [if_neg (by omega)]⟩⟩
theorem ct_X12_restore (σ : en_m) (s : Int) (h1 : i32 s) (hH : R01 ((σ r_Md_isHeld))) : en_ct z_X12_restore [.inr (.inr (r_Md, 0)), .inl s] σ (fun r σ' => ∃ (f_Md_element : Int → Int), r = some (.inl (bI ((0 ≤ s ∧ s ≤ 2) ∧ ¬ (σ r_Md_isHeld) s = 0))) ∧ σ' = srl σ [(r_Md_element, f_Md_element)] ∧ (f_Md_element = if (0 ≤ s ∧ s ≤ 2) ∧ ¬ (σ r_Md_isHeld) s = 0 then seg (σ r_Md_element) 0 2400 (fun k => (σ r_Md_held) (2400 * s + k)) else (σ r_Md_element))) := by
  show en_wp k_X12_restore 0 [some (.inr (.inr (r_Md, 0))), some (.inl s), none] [] (srl σ []) (fun r σ' => ∃ (f_Md_element : Int → Int), r = some (.inl (bI ((0 ≤ s ∧ s ≤ 2) ∧ ¬ (σ r_Md_isHeld) s = 0))) ∧ σ' = srl σ [(r_Md_element, f_Md_element)] ∧ (f_Md_element = if (0 ≤ s ∧ s ≤ 2) ∧ ¬ (σ r_Md_isHeld) s = 0 then seg (σ r_Md_element) 0 2400 (fun k => (σ r_Md_held) (2400 * s + k)) else (σ r_Md_element)))
  have L_22 : ∀ (N : Nat) (k : Int) (X : Int → Int), ((0 ≤ s ∧ s ≤ 2) ∧ ¬ σ r_Md_isHeld s = 0) → (0 ≤ k ∧ k ≤ 2400) → (X = seg (σ r_Md_element) 0 k (fun k => σ r_Md_held (2400 * s + k))) → (2400 - k).toNat < N → en_wp k_X12_restore 22 [some (.inr (.inr (r_Md, 0))), some (.inl s), some (.inl k)] [] (srl σ [(r_Md_element, X)]) (fun r σ' => ∃ (f_Md_element : Int → Int), r = some (.inl (bI ((0 ≤ s ∧ s ≤ 2) ∧ ¬ (σ r_Md_isHeld) s = 0))) ∧ σ' = srl σ [(r_Md_element, f_Md_element)] ∧ (f_Md_element = if (0 ≤ s ∧ s ≤ 2) ∧ ¬ (σ r_Md_isHeld) s = 0 then seg (σ r_Md_element) 0 2400 (fun k => (σ r_Md_held) (2400 * s + k)) else (σ r_Md_element))) := by
    intro N
    induction N with
    | zero => intro k X; intros; omega
    | succ N ih_22 =>
      intro k X hs hk hX hN_22
      refine wp_run 2 (pc' := 26) (ls' := [some (.inr (.inr (r_Md, 0))), some (.inl s), some (.inl k)]) (st' := [.inl 2400, .inl k]) (σ' := srl σ [(r_Md_element, X)]) rfl ?_
      refine wp_ic_ge rfl (by omega) (by omega) (fun h_1 => ?_) (fun h_1 => ?_)
      · show en_wp k_X12_restore 53 [some (.inr (.inr (r_Md, 0))), some (.inl s), some (.inl k)] [] (srl σ [(r_Md_element, X)]) _
        refine wp_run 1 (pc' := 54) (ls' := [some (.inr (.inr (r_Md, 0))), some (.inl s), some (.inl k)]) (st' := [.inl 1]) (σ' := srl σ [(r_Md_element, X)]) rfl ?_
        exact wp_zret rfl (.inr rfl) ⟨X, (by first | rfl | (rw [bI_t (by omega)]) | (rw [bI_f (by omega)])), srl_eq (l' := [(r_Md_element, X)]) (And.intro rfl trivial) (And.intro rfl trivial), (by first | rw [if_pos (by omega), hX, show k = 2400 by omega] | rw [if_neg (by omega)])⟩
      · show en_wp k_X12_restore 29 [some (.inr (.inr (r_Md, 0))), some (.inl s), some (.inl k)] [] (srl σ [(r_Md_element, X)]) _
        refine wp_run 10 (pc' := 45) (ls' := [some (.inr (.inr (r_Md, 0))), some (.inl s), some (.inl k)]) (st' := [.inl ((2400 * s) + k), .inr (.inr (r_Md_held, 0)), .inl k, .inr (.inr (r_Md_element, 0))]) (σ' := srl σ [(r_Md_element, X)]) rfl ?_
        refine wp_iald0 rfl rfl (by omega) ?_
        show en_wp k_X12_restore 46 [some (.inr (.inr (r_Md, 0))), some (.inl s), some (.inl k)] [.inl (σ r_Md_held ((2400 * s) + k)), .inl k, .inr (.inr (r_Md_element, 0))] (srl σ [(r_Md_element, X)]) _
        refine wp_iast0 rfl rfl (by omega) (wp_wr (l2 := [(r_Md_element, (up X k (σ r_Md_held ((2400 * s) + k))))]) rfl ?_)
        show en_wp k_X12_restore 47 [some (.inr (.inr (r_Md, 0))), some (.inl s), some (.inl k)] [] (srl σ [(r_Md_element, (up X k (σ r_Md_held ((2400 * s) + k))))]) _
        refine wp_run 2 (pc' := 22) (ls' := [some (.inr (.inr (r_Md, 0))), some (.inl s), some (.inl (k + 1))]) (st' := []) (σ' := srl σ [(r_Md_element, (up X k (σ r_Md_held ((2400 * s) + k))))]) rfl ?_
        exact ih_22 (k + 1) (up X k (σ r_Md_held ((2400 * s) + k))) (by omega) (by omega) (by rw [hX]; exact seg_up0 hk.1 rfl) (by omega)
  refine wp_run 3 (pc' := 3) (ls' := [some (.inr (.inr (r_Md, 0))), some (.inl s), none]) (st' := [.inl 2, .inl 0, .inl s]) (σ' := srl σ []) rfl ?_
  refine wp_fns (v := .inl (bI (0 ≤ s ∧ s ≤ 2))) rfl rfl rfl rfl rfl (ct_X12_in σ s 0 2 (by omega) (by omega) (by omega)) ?_
  show en_wp k_X12_restore 6 [some (.inr (.inr (r_Md, 0))), some (.inl s), none] [.inl (bI (0 ≤ s ∧ s ≤ 2))] (srl σ []) _
  refine wp_if_eqb rfl (fun h_2 => ?_) (fun h_2 => ?_)
  · show en_wp k_X12_restore 18 [some (.inr (.inr (r_Md, 0))), some (.inl s), none] [] (srl σ []) _
    refine wp_run 1 (pc' := 19) (ls' := [some (.inr (.inr (r_Md, 0))), some (.inl s), none]) (st' := [.inl 0]) (σ' := srl σ []) rfl ?_
    exact wp_zret rfl (.inl rfl) ⟨(σ r_Md_element), (by first | rfl | (rw [bI_t (by omega)]) | (rw [bI_f (by omega)])), srl_eq (l' := [(r_Md_element, σ r_Md_element)]) trivial (And.intro rfl trivial), (by first | rw [if_pos (by omega), hX, show k = 2400 by omega] | rw [if_neg (by omega)])⟩
  · show en_wp k_X12_restore 9 [some (.inr (.inr (r_Md, 0))), some (.inl s), none] [] (srl σ []) _
    refine wp_run 3 (pc' := 14) (ls' := [some (.inr (.inr (r_Md, 0))), some (.inl s), none]) (st' := [.inl s, .inr (.inr (r_Md_isHeld, 0))]) (σ' := srl σ []) rfl ?_
    refine wp_bald0 rfl (.inr rfl) (by omega) ?_
    show en_wp k_X12_restore 15 [some (.inr (.inr (r_Md, 0))), some (.inl s), none] [.inl (σ r_Md_isHeld s)] (srl σ []) _
    have hHs := hH s
    refine wp_if_ne rfl (by omega) (fun h_3 => ?_) (fun h_3 => ?_)
    · show en_wp k_X12_restore 20 [some (.inr (.inr (r_Md, 0))), some (.inl s), none] [] (srl σ []) _
      refine wp_run 2 (pc' := 22) (ls' := [some (.inr (.inr (r_Md, 0))), some (.inl s), some (.inl 0)]) (st' := []) (σ' := srl σ []) rfl ?_
      refine wp_mem (srl_eq (l' := [(r_Md_element, (σ r_Md_element))]) trivial (And.intro rfl trivial)) ?_
      exact L_22 _ 0 (σ r_Md_element) (by omega) (by omega) (seg_0 _ _ _).symm (Nat.lt_succ_self _)
    · show en_wp k_X12_restore 18 [some (.inr (.inr (r_Md, 0))), some (.inl s), none] [] (srl σ []) _
      refine wp_run 1 (pc' := 19) (ls' := [some (.inr (.inr (r_Md, 0))), some (.inl s), none]) (st' := [.inl 0]) (σ' := srl σ []) rfl ?_
      exact wp_zret rfl (.inl rfl) ⟨(σ r_Md_element), (by first | rfl | (rw [bI_t (by omega)]) | (rw [bI_f (by omega)])), srl_eq (l' := [(r_Md_element, σ r_Md_element)]) trivial (And.intro rfl trivial), (by first | rw [if_pos (by omega), hX, show k = 2400 by omega] | rw [if_neg (by omega)])⟩
theorem ct_X12_size (σ : en_m) (n : Int) (D : Int) (p : Int) (d : Int) (hI : mI σ n D p) (h1 : i32 d) : en_fn z_X12_size [.inr (.inr (r_Md, 0)), .inl d] σ (.inl (if 0 ≤ d ∧ d ≤ D then (σ r_Md_sizes) d else -1)) := by
  show en_wp k_X12_size 0 [some (.inr (.inr (r_Md, 0))), some (.inl d)] [] (srl σ []) (fun r σ' => r = some (.inl (if 0 ≤ d ∧ d ≤ D then (σ r_Md_sizes) d else -1)) ∧ σ' = σ)
  have hI2 := hI
  obtain ⟨hO, hL, hn, hD, hp, hpw, hst⟩ := hI2
  obtain ⟨⟨hO1, hO2⟩, ⟨hO3, hO4⟩, hO5, hO6, hO7, hO8⟩ := id hO
  refine wp_run 2 (pc' := 2) (ls' := [some (.inr (.inr (r_Md, 0))), some (.inl d)]) (st' := [.inl d, .inr (.inr (r_Md, 0))]) (σ' := srl σ []) rfl ?_
  refine wp_fnv (v := .inl (bI (0 ≤ d ∧ d ≤ D))) rfl rfl rfl rfl (ct_X12_isDegree σ n D p d hI (by omega)) ?_
  show en_wp k_X12_size 5 [some (.inr (.inr (r_Md, 0))), some (.inl d)] [.inl (bI (0 ≤ d ∧ d ≤ D))] (srl σ []) _
  refine wp_if_eqb rfl (fun h_1 => ?_) (fun h_1 => ?_)
  · show en_wp k_X12_size 17 [some (.inr (.inr (r_Md, 0))), some (.inl d)] [] (srl σ []) _
    refine wp_run 1 (pc' := 18) (ls' := [some (.inr (.inr (r_Md, 0))), some (.inl d)]) (st' := [.inl (-1)]) (σ' := srl σ []) rfl ?_
    exact wp_iret rfl ⟨(by repeat (first | rfl | rw [if_pos (by omega)] | rw [if_neg (by omega)])), rfl⟩
  · show en_wp k_X12_size 8 [some (.inr (.inr (r_Md, 0))), some (.inl d)] [] (srl σ []) _
    refine wp_run 3 (pc' := 13) (ls' := [some (.inr (.inr (r_Md, 0))), some (.inl d)]) (st' := [.inl d, .inr (.inr (r_Md_sizes, 0))]) (σ' := srl σ []) rfl ?_
    refine wp_iald0 rfl rfl (by omega) ?_
    show en_wp k_X12_size 14 [some (.inr (.inr (r_Md, 0))), some (.inl d)] [.inl (σ r_Md_sizes d)] (srl σ []) _
    refine wp_run 1 (pc' := 18) (ls' := [some (.inr (.inr (r_Md, 0))), some (.inl d)]) (st' := [.inl (σ r_Md_sizes d)]) (σ' := srl σ []) rfl ?_
    exact wp_iret rfl ⟨(by repeat (first | rfl | rw [if_pos (by omega)] | rw [if_neg (by omega)])), rfl⟩
