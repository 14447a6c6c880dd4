/-! contracts of methods, walked (written by wip/whole/walk.py from the annotations ann_m49) -/
theorem ct_J7_fill_53178_Squares_values (σ : en_m) (v : Int) : en_ct z_J7_fill_53178 [.inr (.inr (r_Squares_values, 0)), .inl v] σ (fun r σ' => r = none ∧ σ' = srl σ [(r_Squares_values, (seg (σ r_Squares_values) 0 4 (fun _ => v)))]) := by
  show en_wp k_J7_fill_53178 0 [some (.inr (.inr (r_Squares_values, 0))), some (.inl v), none, none] [] (srl σ []) (fun r σ' => r = none ∧ σ' = srl σ [(r_Squares_values, (seg (σ r_Squares_values) 0 4 (fun _ => v)))])
  have L_5 : ∀ (N : Nat) (k : Int) (X : Int → Int), (0 ≤ k ∧ k ≤ 4) → (X = seg (σ r_Squares_values) 0 k (fun _ => v)) → (4 - k).toNat < N → en_wp k_J7_fill_53178 5 [some (.inr (.inr (r_Squares_values, 0))), some (.inl v), some (.inl k), some (.inl 4)] [] (srl σ [(r_Squares_values, X)]) (fun r σ' => r = none ∧ σ' = srl σ [(r_Squares_values, (seg (σ r_Squares_values) 0 4 (fun _ => v)))]) := by
    intro N
    induction N with
    | zero => intro k X; intros; omega
    | succ N ih_5 =>
      intro k X hk hX hN_5
      refine wp_run 2 (pc' := 7) (ls' := [some (.inr (.inr (r_Squares_values, 0))), some (.inl v), some (.inl k), some (.inl 4)]) (st' := [.inl 4, .inl k]) (σ' := srl σ [(r_Squares_values, X)]) rfl ?_
      refine wp_ic_ge rfl (by omega) (by omega) (fun h_1 => ?_) (fun h_1 => ?_)
      · show en_wp k_J7_fill_53178 20 [some (.inr (.inr (r_Squares_values, 0))), some (.inl v), some (.inl k), some (.inl 4)] [] (srl σ [(r_Squares_values, X)]) _
        exact wp_vret rfl ⟨rfl, (by rw [hX, show k = 4 by omega])⟩
      · show en_wp k_J7_fill_53178 10 [some (.inr (.inr (r_Squares_values, 0))), some (.inl v), some (.inl k), some (.inl 4)] [] (srl σ [(r_Squares_values, X)]) _
        refine wp_run 3 (pc' := 13) (ls' := [some (.inr (.inr (r_Squares_values, 0))), some (.inl v), some (.inl k), some (.inl 4)]) (st' := [.inl v, .inl k, .inr (.inr (r_Squares_values, 0))]) (σ' := srl σ [(r_Squares_values, X)]) rfl ?_
        refine wp_iast0 rfl rfl (by omega) (wp_wr (l2 := [(r_Squares_values, (up X k v))]) rfl ?_)
        show en_wp k_J7_fill_53178 14 [some (.inr (.inr (r_Squares_values, 0))), some (.inl v), some (.inl k), some (.inl 4)] [] (srl σ [(r_Squares_values, (up X k v))]) _
        refine wp_run 2 (pc' := 5) (ls' := [some (.inr (.inr (r_Squares_values, 0))), some (.inl v), some (.inl (k + 1)), some (.inl 4)]) (st' := []) (σ' := srl σ [(r_Squares_values, (up X k v))]) rfl ?_
        exact ih_5 (k + 1) (up X k v) (by omega) (by rw [hX]; exact seg_up0 hk.1 rfl) (by omega)
  refine wp_run 5 (pc' := 5) (ls' := [some (.inr (.inr (r_Squares_values, 0))), some (.inl v), some (.inl 0), some (.inl 4)]) (st' := []) (σ' := srl σ []) rfl ?_
  refine wp_mem (srl_eq (l' := [(r_Squares_values, (σ r_Squares_values))]) trivial (And.intro rfl trivial)) ?_
  exact L_5 _ 0 (σ r_Squares_values) (by omega) (seg_0 _ _ _).symm (Nat.lt_succ_self _)
theorem ct_X6_firstThatFails (σ : en_m) (n : Int) (D : Int) (p : Int) (f : Int) (m : Int) (hI : cS0 σ n D p) (hsd : (σ r_Squares_side) 0 = 1 ∨ ((σ r_Squares_side) 0 = 2 ∧ p ≤ 3)) (hT : sqT ((σ r_Squares_side) 0) p ((σ r_Squares_sumTable)) ((σ r_Squares_productTable))) (hml : 0 ≤ (σ r_Nought0_lawsNow) 0 ∧ (σ r_Nought0_lawsNow) 0 ≤ 8) (htl : tmL ((σ r_Squares_side) 0) p n D ((σ r_Squares_termSquares)) ((σ r_Squares_termShares)) ((σ r_Squares_termLetters)) ((σ r_Squares_lawEnds)) ((σ r_Squares_lawTops)) ((σ r_Nought0_lengths)) ((σ r_Nought0_lawsNow) 0) ((σ r_Nought0_lawsR))) (hlN : ∀ i, i32 ((σ r_Nought0_lengths) i)) (hn0 : 0 < n) (hv : ∀ x, 0 ≤ x → x < n → 0 ≤ (σ r_Squares_values) x ∧ (σ r_Squares_values) x < sqN ((σ r_Squares_side) 0) p) (hf : 0 ≤ f ∧ f ≤ n) (hmn : m = n) : en_ct z_X6_firstThatFails [.inr (.inr (r_Squares, 0)), .inl f, .inl m] σ (fun r σ' => ∃ (f_Squares_products : Int → Int), ∃ (rr : Int), r = some (.inl rr) ∧ σ' = srl σ [(r_Squares_products, f_Squares_products)] ∧ ((rr = n ∧ ∀ i, 0 ≤ i → i < 8 → f ≤ (σ r_Squares_lawTops) i → lwZ ((σ r_Squares_side) 0) p n D ((σ r_Nought0_lengths)) ((σ r_Nought0_lawsNow) 0) ((σ r_Nought0_lawsR)) ((σ r_Squares_values)) i) ∨ ((f ≤ rr ∧ rr < n) ∧ (∃ i, (0 ≤ i ∧ i < 8) ∧ (σ r_Squares_lawTops) i = rr ∧ ¬ lwZ ((σ r_Squares_side) 0) p n D ((σ r_Nought0_lengths)) ((σ r_Nought0_lawsNow) 0) ((σ r_Nought0_lawsR)) ((σ r_Squares_values)) i) ∧ ∀ i, 0 ≤ i → i < 8 → f ≤ (σ r_Squares_lawTops) i → (σ r_Squares_lawTops) i < rr → lwZ ((σ r_Squares_side) 0) p n D ((σ r_Nought0_lengths)) ((σ r_Nought0_lawsNow) 0) ((σ r_Nought0_lawsR)) ((σ r_Squares_values)) i))) := by
  show en_wp k_X6_firstThatFails 0 [some (.inr (.inr (r_Squares, 0))), some (.inl f), some (.inl m), none, none] [] (srl σ []) (fun r σ' => ∃ (f_Squares_products : Int → Int), ∃ (rr : Int), r = some (.inl rr) ∧ σ' = srl σ [(r_Squares_products, f_Squares_products)] ∧ ((rr = n ∧ ∀ i, 0 ≤ i → i < 8 → f ≤ (σ r_Squares_lawTops) i → lwZ ((σ r_Squares_side) 0) p n D ((σ r_Nought0_lengths)) ((σ r_Nought0_lawsNow) 0) ((σ r_Nought0_lawsR)) ((σ r_Squares_values)) i) ∨ ((f ≤ rr ∧ rr < n) ∧ (∃ i, (0 ≤ i ∧ i < 8) ∧ (σ r_Squares_lawTops) i = rr ∧ ¬ lwZ ((σ r_Squares_side) 0) p n D ((σ r_Nought0_lengths)) ((σ r_Nought0_lawsNow) 0) ((σ r_Nought0_lawsR)) ((σ r_Squares_values)) i) ∧ ∀ i, 0 ≤ i → i < 8 → f ≤ (σ r_Squares_lawTops) i → (σ r_Squares_lawTops) i < rr → lwZ ((σ r_Squares_side) 0) p n D ((σ r_Nought0_lengths)) ((σ r_Nought0_lawsNow) 0) ((σ r_Nought0_lawsR)) ((σ r_Squares_values)) i)))
  have hI2 := hI
  obtain ⟨hO, hn, hD, hp, hm, hst, hln⟩ := hI2
  obtain ⟨⟨hO1, hO2⟩, ⟨hO3, hO4⟩, hO5, hO6, hO7, hO8⟩ := id hO
  have L_2 : ∀ (N : Nat) (l : Int) (PD : Int → Int), (f ≤ l ∧ l ≤ n) → (∀ i, 0 ≤ i → i < 8 → f ≤ σ r_Squares_lawTops i → σ r_Squares_lawTops i < l → lwZ (σ r_Squares_side 0) p n D (σ r_Nought0_lengths) (σ r_Nought0_lawsNow 0) (σ r_Nought0_lawsR) (σ r_Squares_values) i) → (n - l).toNat < N → en_wp k_X6_firstThatFails 2 [some (.inr (.inr (r_Squares, 0))), some (.inl f), some (.inl m), some (.inl l), none] [] (srl σ [(r_Squares_products, PD)]) (fun r σ' => ∃ (f_Squares_products : Int → Int), ∃ (rr : Int), r = some (.inl rr) ∧ σ' = srl σ [(r_Squares_products, f_Squares_products)] ∧ ((rr = n ∧ ∀ i, 0 ≤ i → i < 8 → f ≤ (σ r_Squares_lawTops) i → lwZ ((σ r_Squares_side) 0) p n D ((σ r_Nought0_lengths)) ((σ r_Nought0_lawsNow) 0) ((σ r_Nought0_lawsR)) ((σ r_Squares_values)) i) ∨ ((f ≤ rr ∧ rr < n) ∧ (∃ i, (0 ≤ i ∧ i < 8) ∧ (σ r_Squares_lawTops) i = rr ∧ ¬ lwZ ((σ r_Squares_side) 0) p n D ((σ r_Nought0_lengths)) ((σ r_Nought0_lawsNow) 0) ((σ r_Nought0_lawsR)) ((σ r_Squares_values)) i) ∧ ∀ i, 0 ≤ i → i < 8 → f ≤ (σ r_Squares_lawTops) i → (σ r_Squares_lawTops) i < rr → lwZ ((σ r_Squares_side) 0) p n D ((σ r_Nought0_lengths)) ((σ r_Nought0_lawsNow) 0) ((σ r_Nought0_lawsR)) ((σ r_Squares_values)) i))) := by
    intro N
    induction N with
    | zero => intro l PD; intros; omega
    | succ N ih_2 =>
      intro l PD hl hz hN_2
      have L_10 : ∀ (N : Nat) (i : Int) (PD : Int → Int), (l < n) → (0 ≤ i ∧ i ≤ 8) → (∀ j, 0 ≤ j → j < i → σ r_Squares_lawTops j = l → lwZ (σ r_Squares_side 0) p n D (σ r_Nought0_lengths) (σ r_Nought0_lawsNow 0) (σ r_Nought0_lawsR) (σ r_Squares_values) j) → (8 - i).toNat < N → en_wp k_X6_firstThatFails 10 [some (.inr (.inr (r_Squares, 0))), some (.inl f), some (.inl m), some (.inl l), some (.inl i)] [] (srl σ [(r_Squares_products, PD)]) (fun r σ' => ∃ (f_Squares_products : Int → Int), ∃ (rr : Int), r = some (.inl rr) ∧ σ' = srl σ [(r_Squares_products, f_Squares_products)] ∧ ((rr = n ∧ ∀ i, 0 ≤ i → i < 8 → f ≤ (σ r_Squares_lawTops) i → lwZ ((σ r_Squares_side) 0) p n D ((σ r_Nought0_lengths)) ((σ r_Nought0_lawsNow) 0) ((σ r_Nought0_lawsR)) ((σ r_Squares_values)) i) ∨ ((f ≤ rr ∧ rr < n) ∧ (∃ i, (0 ≤ i ∧ i < 8) ∧ (σ r_Squares_lawTops) i = rr ∧ ¬ lwZ ((σ r_Squares_side) 0) p n D ((σ r_Nought0_lengths)) ((σ r_Nought0_lawsNow) 0) ((σ r_Nought0_lawsR)) ((σ r_Squares_values)) i) ∧ ∀ i, 0 ≤ i → i < 8 → f ≤ (σ r_Squares_lawTops) i → (σ r_Squares_lawTops) i < rr → lwZ ((σ r_Squares_side) 0) p n D ((σ r_Nought0_lengths)) ((σ r_Nought0_lawsNow) 0) ((σ r_Nought0_lawsR)) ((σ r_Squares_values)) i))) := by
        intro N
        induction N with
        | zero => intro i PD; intros; omega
        | succ N ih_10 =>
          intro i PD hln9 hi hzi hN_10
          refine wp_run 2 (pc' := 14) (ls' := [some (.inr (.inr (r_Squares, 0))), some (.inl f), some (.inl m), some (.inl l), some (.inl i)]) (st' := [.inl 8, .inl i]) (σ' := srl σ [(r_Squares_products, PD)]) rfl ?_
          refine wp_ic_ge rfl (by omega) (by omega) (fun h_1 => ?_) (fun h_1 => ?_)
          · show en_wp k_X6_firstThatFails 45 [some (.inr (.inr (r_Squares, 0))), some (.inl f), some (.inl m), some (.inl l), some (.inl i)] [] (srl σ [(r_Squares_products, PD)]) _
            refine wp_run 2 (pc' := 2) (ls' := [some (.inr (.inr (r_Squares, 0))), some (.inl f), some (.inl m), some (.inl (l + 1)), some (.inl i)]) (st' := []) (σ' := srl σ [(r_Squares_products, PD)]) rfl ?_
            refine wp_sub (l := [some (.inr (.inr (r_Squares, 0))), some (.inl f), some (.inl m), some (.inl (l + 1)), none]) (And.intro rfl (And.intro rfl (And.intro rfl (And.intro rfl trivial)))) ?_
            exact ih_2 (l + 1) PD (by omega) (fun j a b c d => by by_cases g9 : σ r_Squares_lawTops j = l; exact hzi j a (by omega) g9; exact hz j a b c (by omega)) (by omega)
          · show en_wp k_X6_firstThatFails 17 [some (.inr (.inr (r_Squares, 0))), some (.inl f), some (.inl m), some (.inl l), some (.inl i)] [] (srl σ [(r_Squares_products, PD)]) _
            refine wp_run 3 (pc' := 23) (ls' := [some (.inr (.inr (r_Squares, 0))), some (.inl f), some (.inl m), some (.inl l), some (.inl i)]) (st' := [.inl i, .inr (.inr (r_Squares_lawTops, 0))]) (σ' := srl σ [(r_Squares_products, PD)]) rfl ?_
            refine wp_iald0 rfl rfl (by omega) ?_
            show en_wp k_X6_firstThatFails 24 [some (.inr (.inr (r_Squares, 0))), some (.inl f), some (.inl m), some (.inl l), some (.inl i)] [.inl (σ r_Squares_lawTops i)] (srl σ [(r_Squares_products, PD)]) _
            refine wp_run 1 (pc' := 25) (ls' := [some (.inr (.inr (r_Squares, 0))), some (.inl f), some (.inl m), some (.inl l), some (.inl i)]) (st' := [.inl l, .inl (σ r_Squares_lawTops i)]) (σ' := srl σ [(r_Squares_products, PD)]) rfl ?_
            have htb := (htl i hi.1 (by omega)).2.1
            refine wp_ic_ne rfl (by omega) (by omega) (fun h_2 => ?_) (fun h_2 => ?_)
            · show en_wp k_X6_firstThatFails 39 [some (.inr (.inr (r_Squares, 0))), some (.inl f), some (.inl m), some (.inl l), some (.inl i)] [] (srl σ [(r_Squares_products, PD)]) _
              refine wp_run 2 (pc' := 10) (ls' := [some (.inr (.inr (r_Squares, 0))), some (.inl f), some (.inl m), some (.inl l), some (.inl (i + 1))]) (st' := []) (σ' := srl σ [(r_Squares_products, PD)]) rfl ?_
              exact ih_10 (i + 1) PD (by omega) (by omega) (fun j a b c => by rcases Int.lt_or_eq_of_le (show j ≤ i by omega) with h5 | h5; exact hzi j a h5 c; exact absurd (h5 ▸ c) (by assumption)) (by omega)
            · show en_wp k_X6_firstThatFails 28 [some (.inr (.inr (r_Squares, 0))), some (.inl f), some (.inl m), some (.inl l), some (.inl i)] [] (srl σ [(r_Squares_products, PD)]) _
              refine wp_run 2 (pc' := 31) (ls' := [some (.inr (.inr (r_Squares, 0))), some (.inl f), some (.inl m), some (.inl l), some (.inl i)]) (st' := [.inl i, .inr (.inr (r_Squares, 0))]) (σ' := srl σ [(r_Squares_products, PD)]) rfl ?_
              refine wp_callv rfl rfl rfl rfl (ct_X6_holds (srl σ [(r_Squares_products, PD)]) n D p _ i hI hsd hT hml htl hlN hn0 hv (by omega) ⟨rfl, by have h9 := (htl i hi.1 (by omega)).2.2.1 (by omega); unfold lnA at h9; exact h9⟩) ?_
              rintro _ _ ⟨f_3, r_4, rfl, rfl, p_5⟩
              have p_5 : (r_4 = 1 ∧ lwZ ((σ r_Squares_side) 0) p n D ((σ r_Nought0_lengths)) ((σ r_Nought0_lawsNow) 0) ((σ r_Nought0_lawsR)) ((σ r_Squares_values)) i) ∨ (r_4 = 0 ∧ ¬ lwZ ((σ r_Squares_side) 0) p n D ((σ r_Nought0_lengths)) ((σ r_Nought0_lawsNow) 0) ((σ r_Nought0_lawsR)) ((σ r_Squares_values)) i) := p_5
              refine wp_bk (l2 := [(r_Squares_products, f_3)]) rfl rfl ?_
              show en_wp k_X6_firstThatFails 34 [some (.inr (.inr (r_Squares, 0))), some (.inl f), some (.inl m), some (.inl l), some (.inl i)] [.inl r_4] (srl σ [(r_Squares_products, f_3)]) _
              have kh := p_5
              have khb : r_4 = 0 ∨ r_4 = 1 := by rcases kh with h | h <;> omega
              refine wp_if_ne rfl (by omega) (fun h_6 => ?_) (fun h_6 => ?_)
              · show en_wp k_X6_firstThatFails 39 [some (.inr (.inr (r_Squares, 0))), some (.inl f), some (.inl m), some (.inl l), some (.inl i)] [] (srl σ [(r_Squares_products, f_3)]) _
                refine wp_run 2 (pc' := 10) (ls' := [some (.inr (.inr (r_Squares, 0))), some (.inl f), some (.inl m), some (.inl l), some (.inl (i + 1))]) (st' := []) (σ' := srl σ [(r_Squares_products, f_3)]) rfl ?_
                exact ih_10 (i + 1) f_3 (by omega) (by omega) (fun j a b c => by rcases Int.lt_or_eq_of_le (show j ≤ i by omega) with h5 | h5; exact hzi j a h5 c; rw [h5]; exact (kh.resolve_right (by omega)).2) (by omega)
              · show en_wp k_X6_firstThatFails 37 [some (.inr (.inr (r_Squares, 0))), some (.inl f), some (.inl m), some (.inl l), some (.inl i)] [] (srl σ [(r_Squares_products, f_3)]) _
                refine wp_run 1 (pc' := 38) (ls' := [some (.inr (.inr (r_Squares, 0))), some (.inl f), some (.inl m), some (.inl l), some (.inl i)]) (st' := [.inl l]) (σ' := srl σ [(r_Squares_products, f_3)]) rfl ?_
                exact wp_iret rfl ⟨f_3, l, rfl, srl_eq (l' := [(r_Squares_products, f_3)]) (And.intro rfl trivial) (And.intro rfl trivial), (.inr ⟨⟨hl.1, hln9⟩, ⟨i, by omega, by assumption, (kh.resolve_left (by omega)).2⟩, hz⟩)⟩
      refine wp_run 2 (pc' := 4) (ls' := [some (.inr (.inr (r_Squares, 0))), some (.inl f), some (.inl m), some (.inl l), none]) (st' := [.inl m, .inl l]) (σ' := srl σ [(r_Squares_products, PD)]) rfl ?_
      refine wp_ic_ge rfl (by omega) (by omega) (fun h_7 => ?_) (fun h_7 => ?_)
      · show en_wp k_X6_firstThatFails 51 [some (.inr (.inr (r_Squares, 0))), some (.inl f), some (.inl m), some (.inl l), none] [] (srl σ [(r_Squares_products, PD)]) _
        refine wp_run 1 (pc' := 52) (ls' := [some (.inr (.inr (r_Squares, 0))), some (.inl f), some (.inl m), some (.inl l), none]) (st' := [.inl m]) (σ' := srl σ [(r_Squares_products, PD)]) rfl ?_
        exact wp_iret rfl ⟨PD, m, rfl, srl_eq (l' := [(r_Squares_products, PD)]) (And.intro rfl trivial) (And.intro rfl trivial), (.inl ⟨by omega, fun i a b c => hz i a b c (by have := (htl i a b).2.1; omega)⟩)⟩
      · show en_wp k_X6_firstThatFails 7 [some (.inr (.inr (r_Squares, 0))), some (.inl f), some (.inl m), some (.inl l), none] [] (srl σ [(r_Squares_products, PD)]) _
        refine wp_run 2 (pc' := 10) (ls' := [some (.inr (.inr (r_Squares, 0))), some (.inl f), some (.inl m), some (.inl l), some (.inl 0)]) (st' := []) (σ' := srl σ [(r_Squares_products, PD)]) rfl ?_
        exact L_10 _ 0 PD (by omega) (by omega) (fun j a b => by omega) (Nat.lt_succ_self _)
  refine wp_run 2 (pc' := 2) (ls' := [some (.inr (.inr (r_Squares, 0))), some (.inl f), some (.inl m), some (.inl f), none]) (st' := []) (σ' := srl σ []) rfl ?_
  refine wp_mem (srl_eq (l' := [(r_Squares_products, (σ r_Squares_products))]) trivial (And.intro rfl trivial)) ?_
  exact L_2 _ f (σ r_Squares_products) (by omega) (fun i a b c d => by omega) (Nat.lt_succ_self _)
theorem ct_X6_waysWith (σ : en_m) (n : Int) (D : Int) (p : Int) (f : Int) (k : Int) (most : Int) (hI : cS0 σ n D p) (hsd : (σ r_Squares_side) 0 = 1 ∨ ((σ r_Squares_side) 0 = 2 ∧ p ≤ 3)) (hT : sqT ((σ r_Squares_side) 0) p ((σ r_Squares_sumTable)) ((σ r_Squares_productTable))) (hsq : (σ r_Squares_squares) 0 = sqN ((σ r_Squares_side) 0) p) (hml : 0 ≤ (σ r_Nought0_lawsNow) 0 ∧ (σ r_Nought0_lawsNow) 0 ≤ 8) (htl : tmL ((σ r_Squares_side) 0) p n D ((σ r_Squares_termSquares)) ((σ r_Squares_termShares)) ((σ r_Squares_termLetters)) ((σ r_Squares_lawEnds)) ((σ r_Squares_lawTops)) ((σ r_Nought0_lengths)) ((σ r_Nought0_lawsNow) 0) ((σ r_Nought0_lawsR))) (hlN : ∀ i, i32 ((σ r_Nought0_lengths) i)) (hf : 0 ≤ f ∧ f < n) (hk : 0 ≤ k ∧ k < sqN ((σ r_Squares_side) 0) p) (hms : sqN ((σ r_Squares_side) 0) p ^ (n - 1 - f).toNat ≤ most ∧ most ≤ 100000) : en_ct z_X6_waysWith [.inr (.inr (r_Squares, 0)), .inl f, .inl k, .inl most] σ (fun r σ' => ∃ (f_Squares_values : Int → Int), ∃ (f_Squares_products : Int → Int), ∃ (rr : Int), r = some (.inl rr) ∧ σ' = srl σ [(r_Squares_values, f_Squares_values), (r_Squares_products, f_Squares_products)] ∧ (rr = NwC ((σ r_Squares_side) 0) p n D ((σ r_Nought0_lengths)) ((σ r_Nought0_lawsNow) 0) ((σ r_Nought0_lawsR)) f k)) := by
  show en_wp k_X6_waysWith 0 [some (.inr (.inr (r_Squares, 0))), some (.inl f), some (.inl k), some (.inl most), none, none, none, none, none, none] [] (srl σ []) (fun r σ' => ∃ (f_Squares_values : Int → Int), ∃ (f_Squares_products : Int → Int), ∃ (rr : Int), r = some (.inl rr) ∧ σ' = srl σ [(r_Squares_values, f_Squares_values), (r_Squares_products, f_Squares_products)] ∧ (rr = NwC ((σ r_Squares_side) 0) p n D ((σ r_Nought0_lengths)) ((σ r_Nought0_lawsNow) 0) ((σ r_Nought0_lawsR)) f k))
  have hI2 := hI
  obtain ⟨hO, hn, hD, hp, hm, hst, hln⟩ := hI2
  obtain ⟨⟨hO1, hO2⟩, ⟨hO3, hO4⟩, hO5, hO6, hO7, hO8⟩ := id hO
  have h97 := sqN_81 (s := σ r_Squares_side 0) (p := p) (by omega) hsd
  have hn0 : 0 < n := by omega
  have L_33 : ∀ (N : Nat) (c : Int) (g : Int) (t : Int) (VV : Int → Int) (PD : Int → Int), (0 ≤ t) → (wwP (σ r_Squares_side 0) p n D (σ r_Squares_lawTops) (σ r_Nought0_lengths) (σ r_Nought0_lawsNow 0) (σ r_Nought0_lawsR) f k VV c g t) → (most + 1 - t).toNat < N → en_wp k_X6_waysWith 33 [some (.inr (.inr (r_Squares, 0))), some (.inl f), some (.inl k), some (.inl most), some (.inl n), some (.inl c), some (.inl g), some (.inl t), none, none] [] (srl σ [(r_Squares_values, VV), (r_Squares_products, PD)]) (fun r σ' => ∃ (f_Squares_values : Int → Int), ∃ (f_Squares_products : Int → Int), ∃ (rr : Int), r = some (.inl rr) ∧ σ' = srl σ [(r_Squares_values, f_Squares_values), (r_Squares_products, f_Squares_products)] ∧ (rr = NwC ((σ r_Squares_side) 0) p n D ((σ r_Nought0_lengths)) ((σ r_Nought0_lawsNow) 0) ((σ r_Nought0_lawsR)) f k)) := by
    intro N
    induction N with
    | zero => intro c g t VV PD; intros; omega
    | succ N ih_33 =>
      intro c g t VV PD ht hW hN_33
      have htl9 := ww_lt hO6 hf.1 hW
      have hWb := hW.1
      have hv := hW.2.1
      have L_77 : ∀ (N : Nat) (c : Int) (a : Int) (VV : Int → Int) (PD : Int → Int), (wwQ (σ r_Squares_side 0) p n D (σ r_Squares_lawTops) (σ r_Nought0_lengths) (σ r_Nought0_lawsNow 0) (σ r_Nought0_lawsR) f k VV c a t) → (a - f).toNat < N → en_wp k_X6_waysWith 77 [some (.inr (.inr (r_Squares, 0))), some (.inl f), some (.inl k), some (.inl most), some (.inl n), some (.inl c), none, some (.inl t), none, some (.inl a)] [] (srl σ [(r_Squares_values, VV), (r_Squares_products, PD)]) (fun r σ' => ∃ (f_Squares_values : Int → Int), ∃ (f_Squares_products : Int → Int), ∃ (rr : Int), r = some (.inl rr) ∧ σ' = srl σ [(r_Squares_values, f_Squares_values), (r_Squares_products, f_Squares_products)] ∧ (rr = NwC ((σ r_Squares_side) 0) p n D ((σ r_Nought0_lengths)) ((σ r_Nought0_lawsNow) 0) ((σ r_Nought0_lawsR)) f k)) := by
        intro N
        induction N with
        | zero => intro c a VV PD; intros; omega
        | succ N ih_77 =>
          intro c a VV PD hQ hN_77
          have hQb := hQ.1
          have hQv := hQ.2.1
          refine wp_run 2 (pc' := 80) (ls' := [some (.inr (.inr (r_Squares, 0))), some (.inl f), some (.inl k), some (.inl most), some (.inl n), some (.inl c), none, some (.inl t), none, some (.inl a)]) (st' := [.inl f, .inl a]) (σ' := srl σ [(r_Squares_values, VV), (r_Squares_products, PD)]) rfl ?_
          refine wp_ic_le rfl (by omega) (by omega) (fun h_1 => ?_) (fun h_1 => ?_)
          · show en_wp k_X6_waysWith 113 [some (.inr (.inr (r_Squares, 0))), some (.inl f), some (.inl k), some (.inl most), some (.inl n), some (.inl c), none, some (.inl t), none, some (.inl a)] [] (srl σ [(r_Squares_values, VV), (r_Squares_products, PD)]) _
            refine wp_run 2 (pc' := 116) (ls' := [some (.inr (.inr (r_Squares, 0))), some (.inl f), some (.inl k), some (.inl most), some (.inl n), some (.inl c), none, some (.inl t), none, some (.inl a)]) (st' := [.inl f, .inl a]) (σ' := srl σ [(r_Squares_values, VV), (r_Squares_products, PD)]) rfl ?_
            refine wp_ic_gt rfl (by omega) (by omega) (fun h_2 => ?_) (fun h_2 => ?_)
            · show en_wp k_X6_waysWith 122 [some (.inr (.inr (r_Squares, 0))), some (.inl f), some (.inl k), some (.inl most), some (.inl n), some (.inl c), none, some (.inl t), none, some (.inl a)] [] (srl σ [(r_Squares_values, VV), (r_Squares_products, PD)]) _
              refine wp_run 4 (pc' := 129) (ls' := [some (.inr (.inr (r_Squares, 0))), some (.inl f), some (.inl k), some (.inl most), some (.inl n), some (.inl c), none, some (.inl t), none, some (.inl a)]) (st' := [.inl a, .inr (.inr (r_Squares_values, 0)), .inl a, .inr (.inr (r_Squares_values, 0))]) (σ' := srl σ [(r_Squares_values, VV), (r_Squares_products, PD)]) rfl ?_
              have hva := hQv a (by omega) (by omega)
              refine wp_iald0 rfl rfl (by omega) ?_
              show en_wp k_X6_waysWith 130 [some (.inr (.inr (r_Squares, 0))), some (.inl f), some (.inl k), some (.inl most), some (.inl n), some (.inl c), none, some (.inl t), none, some (.inl a)] [.inl (VV a), .inl a, .inr (.inr (r_Squares_values, 0))] (srl σ [(r_Squares_values, VV), (r_Squares_products, PD)]) _
              refine wp_run 2 (pc' := 132) (ls' := [some (.inr (.inr (r_Squares, 0))), some (.inl f), some (.inl k), some (.inl most), some (.inl n), some (.inl c), none, some (.inl t), none, some (.inl a)]) (st' := [.inl ((VV a) + 1), .inl a, .inr (.inr (r_Squares_values, 0))]) (σ' := srl σ [(r_Squares_values, VV), (r_Squares_products, PD)]) rfl ?_
              refine wp_iast0 rfl rfl (by omega) (wp_wr (l2 := [(r_Squares_values, (up VV a ((VV a) + 1))), (r_Squares_products, PD)]) rfl ?_)
              show en_wp k_X6_waysWith 133 [some (.inr (.inr (r_Squares, 0))), some (.inl f), some (.inl k), some (.inl most), some (.inl n), some (.inl c), none, some (.inl t), none, some (.inl a)] [] (srl σ [(r_Squares_values, (up VV a ((VV a) + 1))), (r_Squares_products, PD)]) _
              refine wp_run 4 (pc' := 33) (ls' := [some (.inr (.inr (r_Squares, 0))), some (.inl f), some (.inl k), some (.inl most), some (.inl n), some (.inl c), some (.inl a), some (.inl (t + 1)), none, some (.inl a)]) (st' := []) (σ' := srl σ [(r_Squares_values, (up VV a ((VV a) + 1))), (r_Squares_products, PD)]) rfl ?_
              refine wp_sub (l := [some (.inr (.inr (r_Squares, 0))), some (.inl f), some (.inl k), some (.inl most), some (.inl n), some (.inl c), some (.inl a), some (.inl (t + 1)), none, none]) (And.intro rfl (And.intro rfl (And.intro rfl (And.intro rfl (And.intro rfl (And.intro rfl (And.intro rfl (And.intro rfl trivial)))))))) ?_
              exact ih_33 c a (t + 1) (up VV a ((VV a) + 1)) PD (by omega) (by exfalso; omega) (by omega)
            · show en_wp k_X6_waysWith 119 [some (.inr (.inr (r_Squares, 0))), some (.inl f), some (.inl k), some (.inl most), some (.inl n), some (.inl c), none, some (.inl t), none, some (.inl a)] [] (srl σ [(r_Squares_values, VV), (r_Squares_products, PD)]) _
              refine wp_run 1 (pc' := 121) (ls' := [some (.inr (.inr (r_Squares, 0))), some (.inl f), some (.inl k), some (.inl most), some (.inl n), some (.inl c), none, some (.inl t), none, some (.inl a)]) (st' := [.inl c]) (σ' := srl σ [(r_Squares_values, VV), (r_Squares_products, PD)]) rfl ?_
              exact wp_iret rfl ⟨VV, PD, c, rfl, srl_eq (l' := [(r_Squares_values, VV), (r_Squares_products, PD)]) (And.intro rfl (And.intro rfl trivial)) (And.intro rfl (And.intro rfl trivial)), (ww_fin hQ (by omega))⟩
          · show en_wp k_X6_waysWith 83 [some (.inr (.inr (r_Squares, 0))), some (.inl f), some (.inl k), some (.inl most), some (.inl n), some (.inl c), none, some (.inl t), none, some (.inl a)] [] (srl σ [(r_Squares_values, VV), (r_Squares_products, PD)]) _
            refine wp_run 3 (pc' := 89) (ls' := [some (.inr (.inr (r_Squares, 0))), some (.inl f), some (.inl k), some (.inl most), some (.inl n), some (.inl c), none, some (.inl t), none, some (.inl a)]) (st' := [.inl a, .inr (.inr (r_Squares_values, 0))]) (σ' := srl σ [(r_Squares_values, VV), (r_Squares_products, PD)]) rfl ?_
            have hva := hQv a (by omega) (by omega)
            refine wp_iald0 rfl rfl (by omega) ?_
            show en_wp k_X6_waysWith 90 [some (.inr (.inr (r_Squares, 0))), some (.inl f), some (.inl k), some (.inl most), some (.inl n), some (.inl c), none, some (.inl t), none, some (.inl a)] [.inl (VV a)] (srl σ [(r_Squares_values, VV), (r_Squares_products, PD)]) _
            refine wp_run 4 (pc' := 96) (ls' := [some (.inr (.inr (r_Squares, 0))), some (.inl f), some (.inl k), some (.inl most), some (.inl n), some (.inl c), none, some (.inl t), none, some (.inl a)]) (st' := [.inl ((σ r_Squares_squares 0) - 1), .inl (VV a)]) (σ' := srl σ [(r_Squares_values, VV), (r_Squares_products, PD)]) rfl ?_
            refine wp_ic_lt rfl (by omega) (by omega) (fun h_3 => ?_) (fun h_3 => ?_)
            · show en_wp k_X6_waysWith 113 [some (.inr (.inr (r_Squares, 0))), some (.inl f), some (.inl k), some (.inl most), some (.inl n), some (.inl c), none, some (.inl t), none, some (.inl a)] [] (srl σ [(r_Squares_values, VV), (r_Squares_products, PD)]) _
              refine wp_run 2 (pc' := 116) (ls' := [some (.inr (.inr (r_Squares, 0))), some (.inl f), some (.inl k), some (.inl most), some (.inl n), some (.inl c), none, some (.inl t), none, some (.inl a)]) (st' := [.inl f, .inl a]) (σ' := srl σ [(r_Squares_values, VV), (r_Squares_products, PD)]) rfl ?_
              refine wp_ic_gt rfl (by omega) (by omega) (fun h_4 => ?_) (fun h_4 => ?_)
              · show en_wp k_X6_waysWith 122 [some (.inr (.inr (r_Squares, 0))), some (.inl f), some (.inl k), some (.inl most), some (.inl n), some (.inl c), none, some (.inl t), none, some (.inl a)] [] (srl σ [(r_Squares_values, VV), (r_Squares_products, PD)]) _
                refine wp_run 4 (pc' := 129) (ls' := [some (.inr (.inr (r_Squares, 0))), some (.inl f), some (.inl k), some (.inl most), some (.inl n), some (.inl c), none, some (.inl t), none, some (.inl a)]) (st' := [.inl a, .inr (.inr (r_Squares_values, 0)), .inl a, .inr (.inr (r_Squares_values, 0))]) (σ' := srl σ [(r_Squares_values, VV), (r_Squares_products, PD)]) rfl ?_
                have hva := hQv a (by omega) (by omega)
                refine wp_iald0 rfl rfl (by omega) ?_
                show en_wp k_X6_waysWith 130 [some (.inr (.inr (r_Squares, 0))), some (.inl f), some (.inl k), some (.inl most), some (.inl n), some (.inl c), none, some (.inl t), none, some (.inl a)] [.inl (VV a), .inl a, .inr (.inr (r_Squares_values, 0))] (srl σ [(r_Squares_values, VV), (r_Squares_products, PD)]) _
                refine wp_run 2 (pc' := 132) (ls' := [some (.inr (.inr (r_Squares, 0))), some (.inl f), some (.inl k), some (.inl most), some (.inl n), some (.inl c), none, some (.inl t), none, some (.inl a)]) (st' := [.inl ((VV a) + 1), .inl a, .inr (.inr (r_Squares_values, 0))]) (σ' := srl σ [(r_Squares_values, VV), (r_Squares_products, PD)]) rfl ?_
                refine wp_iast0 rfl rfl (by omega) (wp_wr (l2 := [(r_Squares_values, (up VV a ((VV a) + 1))), (r_Squares_products, PD)]) rfl ?_)
                show en_wp k_X6_waysWith 133 [some (.inr (.inr (r_Squares, 0))), some (.inl f), some (.inl k), some (.inl most), some (.inl n), some (.inl c), none, some (.inl t), none, some (.inl a)] [] (srl σ [(r_Squares_values, (up VV a ((VV a) + 1))), (r_Squares_products, PD)]) _
                refine wp_run 4 (pc' := 33) (ls' := [some (.inr (.inr (r_Squares, 0))), some (.inl f), some (.inl k), some (.inl most), some (.inl n), some (.inl c), some (.inl a), some (.inl (t + 1)), none, some (.inl a)]) (st' := []) (σ' := srl σ [(r_Squares_values, (up VV a ((VV a) + 1))), (r_Squares_products, PD)]) rfl ?_
                refine wp_sub (l := [some (.inr (.inr (r_Squares, 0))), some (.inl f), some (.inl k), some (.inl most), some (.inl n), some (.inl c), some (.inl a), some (.inl (t + 1)), none, none]) (And.intro rfl (And.intro rfl (And.intro rfl (And.intro rfl (And.intro rfl (And.intro rfl (And.intro rfl (And.intro rfl trivial)))))))) ?_
                exact ih_33 c a (t + 1) (up VV a ((VV a) + 1)) PD (by omega) (ww_inc hO6 hn0 htl hf.1 hQ (by omega) (by omega)) (by omega)
              · show en_wp k_X6_waysWith 119 [some (.inr (.inr (r_Squares, 0))), some (.inl f), some (.inl k), some (.inl most), some (.inl n), some (.inl c), none, some (.inl t), none, some (.inl a)] [] (srl σ [(r_Squares_values, VV), (r_Squares_products, PD)]) _
                refine wp_run 1 (pc' := 121) (ls' := [some (.inr (.inr (r_Squares, 0))), some (.inl f), some (.inl k), some (.inl most), some (.inl n), some (.inl c), none, some (.inl t), none, some (.inl a)]) (st' := [.inl c]) (σ' := srl σ [(r_Squares_values, VV), (r_Squares_products, PD)]) rfl ?_
                exact wp_iret rfl ⟨VV, PD, c, rfl, srl_eq (l' := [(r_Squares_values, VV), (r_Squares_products, PD)]) (And.intro rfl (And.intro rfl trivial)) (And.intro rfl (And.intro rfl trivial)), (ww_fin hQ (by omega))⟩
            · show en_wp k_X6_waysWith 99 [some (.inr (.inr (r_Squares, 0))), some (.inl f), some (.inl k), some (.inl most), some (.inl n), some (.inl c), none, some (.inl t), none, some (.inl a)] [] (srl σ [(r_Squares_values, VV), (r_Squares_products, PD)]) _
              refine wp_run 4 (pc' := 106) (ls' := [some (.inr (.inr (r_Squares, 0))), some (.inl f), some (.inl k), some (.inl most), some (.inl n), some (.inl c), none, some (.inl t), none, some (.inl a)]) (st' := [.inl 0, .inl a, .inr (.inr (r_Squares_values, 0))]) (σ' := srl σ [(r_Squares_values, VV), (r_Squares_products, PD)]) rfl ?_
              refine wp_iast0 rfl rfl (by omega) (wp_wr (l2 := [(r_Squares_values, (up VV a 0)), (r_Squares_products, PD)]) rfl ?_)
              show en_wp k_X6_waysWith 107 [some (.inr (.inr (r_Squares, 0))), some (.inl f), some (.inl k), some (.inl most), some (.inl n), some (.inl c), none, some (.inl t), none, some (.inl a)] [] (srl σ [(r_Squares_values, (up VV a 0)), (r_Squares_products, PD)]) _
              refine wp_run 2 (pc' := 77) (ls' := [some (.inr (.inr (r_Squares, 0))), some (.inl f), some (.inl k), some (.inl most), some (.inl n), some (.inl c), none, some (.inl t), none, some (.inl (a + (-1)))]) (st' := []) (σ' := srl σ [(r_Squares_values, (up VV a 0)), (r_Squares_products, PD)]) rfl ?_
              exact ih_77 c (a + (-1)) (up VV a 0) PD (ww_carry hO6 hn0 htl hf.1 hQ (by omega) (by omega)) (by omega)
      refine wp_run 2 (pc' := 36) (ls' := [some (.inr (.inr (r_Squares, 0))), some (.inl f), some (.inl k), some (.inl most), some (.inl n), some (.inl c), some (.inl g), some (.inl t), none, none]) (st' := [.inl most, .inl t]) (σ' := srl σ [(r_Squares_values, VV), (r_Squares_products, PD)]) rfl ?_
      refine wp_ic_gt rfl (by omega) (by omega) (fun h_5 => ?_) (fun h_5 => ?_)
      · exfalso; omega
      · show en_wp k_X6_waysWith 39 [some (.inr (.inr (r_Squares, 0))), some (.inl f), some (.inl k), some (.inl most), some (.inl n), some (.inl c), some (.inl g), some (.inl t), none, none] [] (srl σ [(r_Squares_values, VV), (r_Squares_products, PD)]) _
        refine wp_run 3 (pc' := 44) (ls' := [some (.inr (.inr (r_Squares, 0))), some (.inl f), some (.inl k), some (.inl most), some (.inl n), some (.inl c), some (.inl g), some (.inl t), none, none]) (st' := [.inl n, .inl g, .inr (.inr (r_Squares, 0))]) (σ' := srl σ [(r_Squares_values, VV), (r_Squares_products, PD)]) rfl ?_
        
        refine wp_callv rfl rfl rfl rfl (ct_X6_firstThatFails (srl σ [(r_Squares_values, VV), (r_Squares_products, PD)]) n D p g n hI hsd hT hml htl hlN hn0 hv (by omega) (by omega)) ?_
        rintro _ _ ⟨f_6, r_7, rfl, rfl, p_8⟩
        have p_8 : (r_7 = n ∧ ∀ i, 0 ≤ i → i < 8 → g ≤ (σ r_Squares_lawTops) i → lwZ ((σ r_Squares_side) 0) p n D ((σ r_Nought0_lengths)) ((σ r_Nought0_lawsNow) 0) ((σ r_Nought0_lawsR)) (VV) i) ∨ ((g ≤ r_7 ∧ r_7 < n) ∧ (∃ i, (0 ≤ i ∧ i < 8) ∧ (σ r_Squares_lawTops) i = r_7 ∧ ¬ lwZ ((σ r_Squares_side) 0) p n D ((σ r_Nought0_lengths)) ((σ r_Nought0_lawsNow) 0) ((σ r_Nought0_lawsR)) (VV) i) ∧ ∀ i, 0 ≤ i → i < 8 → g ≤ (σ r_Squares_lawTops) i → (σ r_Squares_lawTops) i < r_7 → lwZ ((σ r_Squares_side) 0) p n D ((σ r_Nought0_lengths)) ((σ r_Nought0_lawsNow) 0) ((σ r_Nought0_lawsR)) (VV) i) := p_8
        refine wp_bk (l2 := [(r_Squares_values, VV), (r_Squares_products, f_6)]) rfl rfl ?_
        show en_wp k_X6_waysWith 47 [some (.inr (.inr (r_Squares, 0))), some (.inl f), some (.inl k), some (.inl most), some (.inl n), some (.inl c), some (.inl g), some (.inl t), none, none] [.inl r_7] (srl σ [(r_Squares_values, VV), (r_Squares_products, f_6)]) _
        have kf := p_8
        have kfb : 0 ≤ r_7 ∧ r_7 ≤ n := by rcases kf with h | h; omega; have := h.1; omega
        refine wp_run 4 (pc' := 55) (ls' := [some (.inr (.inr (r_Squares, 0))), some (.inl f), some (.inl k), some (.inl most), some (.inl n), some (.inl c), some (.inl g), some (.inl t), some (.inl r_7), none]) (st' := [.inl n, .inl r_7, .inl c]) (σ' := srl σ [(r_Squares_values, VV), (r_Squares_products, f_6)]) rfl ?_
        refine wp_ic_ne rfl (by omega) (by omega) (fun h_9 => ?_) (fun h_9 => ?_)
        · have hb9 := kf.resolve_left (fun q => h_9 q.1)
          have hQ9 := ww_bad hO6 htl hf.1 hW hb9.1 hb9.2.1 hb9.2.2
          have hb9 := hb9.1
          show en_wp k_X6_waysWith 62 [some (.inr (.inr (r_Squares, 0))), some (.inl f), some (.inl k), some (.inl most), some (.inl n), some (.inl c), some (.inl g), some (.inl t), some (.inl r_7), none] [.inl c] (srl σ [(r_Squares_values, VV), (r_Squares_products, f_6)]) _
          refine wp_run 7 (pc' := 72) (ls' := [some (.inr (.inr (r_Squares, 0))), some (.inl f), some (.inl k), some (.inl most), some (.inl n), some (.inl (c + 0)), some (.inl g), some (.inl t), some (.inl r_7), none]) (st' := [.inl (n - 1), .inl r_7]) (σ' := srl σ [(r_Squares_values, VV), (r_Squares_products, f_6)]) rfl ?_
          refine wp_min rfl rfl (by omega) (by omega) ?_
          show en_wp k_X6_waysWith 75 [some (.inr (.inr (r_Squares, 0))), some (.inl f), some (.inl k), some (.inl most), some (.inl n), some (.inl (c + 0)), some (.inl g), some (.inl t), some (.inl r_7), none] [.inl (min r_7 (n - 1))] (srl σ [(r_Squares_values, VV), (r_Squares_products, f_6)]) _
          refine wp_run 1 (pc' := 77) (ls' := [some (.inr (.inr (r_Squares, 0))), some (.inl f), some (.inl k), some (.inl most), some (.inl n), some (.inl (c + 0)), some (.inl g), some (.inl t), some (.inl r_7), some (.inl (min r_7 (n - 1)))]) (st' := []) (σ' := srl σ [(r_Squares_values, VV), (r_Squares_products, f_6)]) rfl ?_
          refine wp_sub (l := [some (.inr (.inr (r_Squares, 0))), some (.inl f), some (.inl k), some (.inl most), some (.inl n), some (.inl (c + 0)), none, some (.inl t), none, some (.inl (min r_7 (n - 1)))]) (And.intro rfl (And.intro rfl (And.intro rfl (And.intro rfl (And.intro rfl (And.intro rfl (And.intro rfl (And.intro rfl trivial)))))))) ?_
          exact L_77 _ (c + 0) (min r_7 (n - 1)) VV f_6 (wwQ_c hQ9 (by omega) (by omega)) (Nat.lt_succ_self _)
        · have hb9 := kf.resolve_right (fun q => by have := q.1; omega)
          have hQ9 := ww_yes hO6 hml htl hf.1 hW hb9.2
          show en_wp k_X6_waysWith 58 [some (.inr (.inr (r_Squares, 0))), some (.inl f), some (.inl k), some (.inl most), some (.inl n), some (.inl c), some (.inl g), some (.inl t), some (.inl r_7), none] [.inl c] (srl σ [(r_Squares_values, VV), (r_Squares_products, f_6)]) _
          refine wp_run 8 (pc' := 72) (ls' := [some (.inr (.inr (r_Squares, 0))), some (.inl f), some (.inl k), some (.inl most), some (.inl n), some (.inl (c + 1)), some (.inl g), some (.inl t), some (.inl r_7), none]) (st' := [.inl (n - 1), .inl r_7]) (σ' := srl σ [(r_Squares_values, VV), (r_Squares_products, f_6)]) rfl ?_
          refine wp_min rfl rfl (by omega) (by omega) ?_
          show en_wp k_X6_waysWith 75 [some (.inr (.inr (r_Squares, 0))), some (.inl f), some (.inl k), some (.inl most), some (.inl n), some (.inl (c + 1)), some (.inl g), some (.inl t), some (.inl r_7), none] [.inl (min r_7 (n - 1))] (srl σ [(r_Squares_values, VV), (r_Squares_products, f_6)]) _
          refine wp_run 1 (pc' := 77) (ls' := [some (.inr (.inr (r_Squares, 0))), some (.inl f), some (.inl k), some (.inl most), some (.inl n), some (.inl (c + 1)), some (.inl g), some (.inl t), some (.inl r_7), some (.inl (min r_7 (n - 1)))]) (st' := []) (σ' := srl σ [(r_Squares_values, VV), (r_Squares_products, f_6)]) rfl ?_
          refine wp_sub (l := [some (.inr (.inr (r_Squares, 0))), some (.inl f), some (.inl k), some (.inl most), some (.inl n), some (.inl (c + 1)), none, some (.inl t), none, some (.inl (min r_7 (n - 1)))]) (And.intro rfl (And.intro rfl (And.intro rfl (And.intro rfl (And.intro rfl (And.intro rfl (And.intro rfl (And.intro rfl trivial)))))))) ?_
          exact L_77 _ (c + 1) (min r_7 (n - 1)) VV f_6 (wwQ_c hQ9 (by omega) (by omega)) (Nat.lt_succ_self _)
  refine wp_run 2 (pc' := 4) (ls' := [some (.inr (.inr (r_Squares, 0))), some (.inl f), some (.inl k), some (.inl most), none, none, none, none, none, none]) (st' := [.inr (.inr (r_Shape0, 0))]) (σ' := srl σ []) rfl ?_
  refine wp_fnv (v := .inl n) rfl rfl rfl rfl (ct_X5_lettersTold_Shape0 σ n D p hI) ?_
  show en_wp k_X6_waysWith 7 [some (.inr (.inr (r_Squares, 0))), some (.inl f), some (.inl k), some (.inl most), none, none, none, none, none, none] [.inl n] (srl σ []) _
  refine wp_run 4 (pc' := 14) (ls' := [some (.inr (.inr (r_Squares, 0))), some (.inl f), some (.inl k), some (.inl most), some (.inl n), none, none, none, none, none]) (st' := [.inl 0, .inr (.inr (r_Squares_values, 0))]) (σ' := srl σ []) rfl ?_
  refine wp_calls rfl rfl rfl rfl rfl (ct_J7_fill_53178_Squares_values σ 0) ?_
  rintro _ _ ⟨rfl, rfl⟩
  show en_wp k_X6_waysWith 17 [some (.inr (.inr (r_Squares, 0))), some (.inl f), some (.inl k), some (.inl most), some (.inl n), none, none, none, none, none] [] (srl σ [(r_Squares_values, (seg (σ r_Squares_values) 0 4 (fun _ => 0)))]) _
  refine wp_run 4 (pc' := 23) (ls' := [some (.inr (.inr (r_Squares, 0))), some (.inl f), some (.inl k), some (.inl most), some (.inl n), none, none, none, none, none]) (st' := [.inl k, .inl f, .inr (.inr (r_Squares_values, 0))]) (σ' := srl σ [(r_Squares_values, (seg (σ r_Squares_values) 0 4 (fun _ => 0)))]) rfl ?_
  refine wp_iast0 rfl rfl (by omega) (wp_wr (l2 := [(r_Squares_values, (up (seg (σ r_Squares_values) 0 4 (fun _ => 0)) f k))]) rfl ?_)
  show en_wp k_X6_waysWith 24 [some (.inr (.inr (r_Squares, 0))), some (.inl f), some (.inl k), some (.inl most), some (.inl n), none, none, none, none, none] [] (srl σ [(r_Squares_values, (up (seg (σ r_Squares_values) 0 4 (fun _ => 0)) f k))]) _
  refine wp_run 6 (pc' := 33) (ls' := [some (.inr (.inr (r_Squares, 0))), some (.inl f), some (.inl k), some (.inl most), some (.inl n), some (.inl 0), some (.inl f), some (.inl 0), none, none]) (st' := []) (σ' := srl σ [(r_Squares_values, (up (seg (σ r_Squares_values) 0 4 (fun _ => 0)) f k))]) rfl ?_
  refine wp_mem (srl_eq (l' := [(r_Squares_values, (up (seg (σ r_Squares_values) 0 4 (fun _ => 0)) f k)), (r_Squares_products, (σ r_Squares_products))]) (And.intro rfl trivial) (And.intro rfl (And.intro rfl trivial))) ?_
  exact L_33 _ 0 f 0 (up (seg (σ r_Squares_values) 0 4 (fun _ => 0)) f k) (σ r_Squares_products) (by omega) (ww_0 hO6 htl hf hk (fun x a b => by by_cases g9 : x = f; rw [if_pos g9, g9, up_eq]; rw [if_neg g9, up_ne g9, seg_in0 (by omega)])) (Nat.lt_succ_self _)
theorem ct_X6_waysFrom (σ : en_m) (n : Int) (D : Int) (p : Int) (f : Int) (most : Int) (hI : cS0 σ n D p) (hsd : (σ r_Squares_side) 0 = 1 ∨ ((σ r_Squares_side) 0 = 2 ∧ p ≤ 3)) (hT : sqT ((σ r_Squares_side) 0) p ((σ r_Squares_sumTable)) ((σ r_Squares_productTable))) (hsq : (σ r_Squares_squares) 0 = sqN ((σ r_Squares_side) 0) p) (hml : 0 ≤ (σ r_Nought0_lawsNow) 0 ∧ (σ r_Nought0_lawsNow) 0 ≤ 8) (htl : tmL ((σ r_Squares_side) 0) p n D ((σ r_Squares_termSquares)) ((σ r_Squares_termShares)) ((σ r_Squares_termLetters)) ((σ r_Squares_lawEnds)) ((σ r_Squares_lawTops)) ((σ r_Nought0_lengths)) ((σ r_Nought0_lawsNow) 0) ((σ r_Nought0_lawsR))) (hlN : ∀ i, i32 ((σ r_Nought0_lengths) i)) (hse : R01 ((σ r_Squares_seen))) (hf : 0 ≤ f ∧ f < n) (hms : sqN ((σ r_Squares_side) 0) p ^ (n - 1 - f).toNat ≤ most ∧ most ≤ 100000) : en_ct z_X6_waysFrom [.inr (.inr (r_Squares, 0)), .inl f, .inl most] σ (fun r σ' => ∃ (f_Squares_values : Int → Int), ∃ (f_Squares_products : Int → Int), ∃ (f_Squares_seen : Int → Int), ∃ (rr : Int), r = some (.inl rr) ∧ σ' = srl σ [(r_Squares_values, f_Squares_values), (r_Squares_products, f_Squares_products), (r_Squares_seen, f_Squares_seen)] ∧ (rr = Aq (sqN ((σ r_Squares_side) 0) p) n (HWc ((σ r_Squares_side) 0) p n D ((σ r_Nought0_lengths)) ((σ r_Nought0_lawsNow) 0) ((σ r_Nought0_lawsR))) f (fun _ => 0)) ∧ (R01 f_Squares_seen)) := by
  show en_wp k_X6_waysFrom 0 [some (.inr (.inr (r_Squares, 0))), some (.inl f), some (.inl most), none, none] [] (srl σ []) (fun r σ' => ∃ (f_Squares_values : Int → Int), ∃ (f_Squares_products : Int → Int), ∃ (f_Squares_seen : Int → Int), ∃ (rr : Int), r = some (.inl rr) ∧ σ' = srl σ [(r_Squares_values, f_Squares_values), (r_Squares_products, f_Squares_products), (r_Squares_seen, f_Squares_seen)] ∧ (rr = Aq (sqN ((σ r_Squares_side) 0) p) n (HWc ((σ r_Squares_side) 0) p n D ((σ r_Nought0_lengths)) ((σ r_Nought0_lawsNow) 0) ((σ r_Nought0_lawsR))) f (fun _ => 0)) ∧ (R01 f_Squares_seen))
  have hI2 := hI
  obtain ⟨hO, hn, hD, hp, hm, hst, hln⟩ := hI2
  obtain ⟨⟨hO1, hO2⟩, ⟨hO3, hO4⟩, hO5, hO6, hO7, hO8⟩ := id hO
  have h97 := sqN_81 (s := σ r_Squares_side 0) (p := p) (by omega) hsd
  have hn0 : 0 < n := by omega
  have L_52 : ∀ (N : Nat) (c : Int) (k : Int) (SE9 : Int → Int) (VV : Int → Int) (PD : Int → Int), (σ r_Squares_side 0 = 2) → (1 ≤ k) → (k ≤ sqN (σ r_Squares_side 0) p) → (wfI (σ r_Squares_side 0) p n D (σ r_Nought0_lengths) (σ r_Nought0_lawsNow 0) (σ r_Nought0_lawsR) f SE9 c k) → (sqN (σ r_Squares_side 0) p - k).toNat < N → en_wp k_X6_waysFrom 52 [some (.inr (.inr (r_Squares, 0))), some (.inl f), some (.inl most), some (.inl c), some (.inl k)] [] (srl σ [(r_Squares_seen, SE9), (r_Squares_values, VV), (r_Squares_products, PD)]) (fun r σ' => ∃ (f_Squares_values : Int → Int), ∃ (f_Squares_products : Int → Int), ∃ (f_Squares_seen : Int → Int), ∃ (rr : Int), r = some (.inl rr) ∧ σ' = srl σ [(r_Squares_values, f_Squares_values), (r_Squares_products, f_Squares_products), (r_Squares_seen, f_Squares_seen)] ∧ (rr = Aq (sqN ((σ r_Squares_side) 0) p) n (HWc ((σ r_Squares_side) 0) p n D ((σ r_Nought0_lengths)) ((σ r_Nought0_lawsNow) 0) ((σ r_Nought0_lawsR))) f (fun _ => 0)) ∧ (R01 f_Squares_seen)) := by
    intro N
    induction N with
    | zero => intro c k SE9 VV PD; intros; omega
    | succ N ih_52 =>
      intro c k SE9 VV PD hs2 hk hkS hw9 hN_52
      have h81 := h97.2.2 hs2
      have hse9 := hw9.1
      refine wp_run 3 (pc' := 58) (ls' := [some (.inr (.inr (r_Squares, 0))), some (.inl f), some (.inl most), some (.inl c), some (.inl k)]) (st' := [.inl (σ r_Squares_squares 0), .inl k]) (σ' := srl σ [(r_Squares_seen, SE9), (r_Squares_values, VV), (r_Squares_products, PD)]) rfl ?_
      refine wp_ic_ge rfl (by omega) (by omega) (fun h_1 => ?_) (fun h_1 => ?_)
      · show en_wp k_X6_waysFrom 102 [some (.inr (.inr (r_Squares, 0))), some (.inl f), some (.inl most), some (.inl c), some (.inl k)] [] (srl σ [(r_Squares_seen, SE9), (r_Squares_values, VV), (r_Squares_products, PD)]) _
        refine wp_run 1 (pc' := 103) (ls' := [some (.inr (.inr (r_Squares, 0))), some (.inl f), some (.inl most), some (.inl c), some (.inl k)]) (st' := [.inl c]) (σ' := srl σ [(r_Squares_seen, SE9), (r_Squares_values, VV), (r_Squares_products, PD)]) rfl ?_
        exact wp_iret rfl ⟨VV, PD, SE9, c, rfl, srl_eq (l' := [(r_Squares_values, VV), (r_Squares_products, PD), (r_Squares_seen, SE9)]) (And.intro rfl (And.intro rfl (And.intro rfl trivial))) (And.intro rfl (And.intro rfl (And.intro rfl trivial))), ⟨wf_fin hw9 (by have := h97.2.2 hs2; omega) (by omega), hse9⟩⟩
      · show en_wp k_X6_waysFrom 61 [some (.inr (.inr (r_Squares, 0))), some (.inl f), some (.inl most), some (.inl c), some (.inl k)] [] (srl σ [(r_Squares_seen, SE9), (r_Squares_values, VV), (r_Squares_products, PD)]) _
        refine wp_run 2 (pc' := 65) (ls' := [some (.inr (.inr (r_Squares, 0))), some (.inl f), some (.inl most), some (.inl c), some (.inl k)]) (st' := [.inl 81, .inl k]) (σ' := srl σ [(r_Squares_seen, SE9), (r_Squares_values, VV), (r_Squares_products, PD)]) rfl ?_
        refine wp_ic_ge rfl (by omega) (by omega) (fun h_2 => ?_) (fun h_2 => ?_)
        · show en_wp k_X6_waysFrom 102 [some (.inr (.inr (r_Squares, 0))), some (.inl f), some (.inl most), some (.inl c), some (.inl k)] [] (srl σ [(r_Squares_seen, SE9), (r_Squares_values, VV), (r_Squares_products, PD)]) _
          refine wp_run 1 (pc' := 103) (ls' := [some (.inr (.inr (r_Squares, 0))), some (.inl f), some (.inl most), some (.inl c), some (.inl k)]) (st' := [.inl c]) (σ' := srl σ [(r_Squares_seen, SE9), (r_Squares_values, VV), (r_Squares_products, PD)]) rfl ?_
          exact wp_iret rfl ⟨VV, PD, SE9, c, rfl, srl_eq (l' := [(r_Squares_values, VV), (r_Squares_products, PD), (r_Squares_seen, SE9)]) (And.intro rfl (And.intro rfl (And.intro rfl trivial))) (And.intro rfl (And.intro rfl (And.intro rfl trivial))), ⟨wf_fin hw9 (by have := h97.2.2 hs2; omega) (by omega), hse9⟩⟩
        · show en_wp k_X6_waysFrom 68 [some (.inr (.inr (r_Squares, 0))), some (.inl f), some (.inl most), some (.inl c), some (.inl k)] [] (srl σ [(r_Squares_seen, SE9), (r_Squares_values, VV), (r_Squares_products, PD)]) _
          refine wp_run 3 (pc' := 74) (ls' := [some (.inr (.inr (r_Squares, 0))), some (.inl f), some (.inl most), some (.inl c), some (.inl k)]) (st' := [.inl k, .inr (.inr (r_Squares_seen, 0))]) (σ' := srl σ [(r_Squares_seen, SE9), (r_Squares_values, VV), (r_Squares_products, PD)]) rfl ?_
          refine wp_bald0 rfl (.inl rfl) (by omega) ?_
          show en_wp k_X6_waysFrom 75 [some (.inr (.inr (r_Squares, 0))), some (.inl f), some (.inl most), some (.inl c), some (.inl k)] [.inl (SE9 k)] (srl σ [(r_Squares_seen, SE9), (r_Squares_values, VV), (r_Squares_products, PD)]) _
          have h01 := hse9 k
          refine wp_if_ne rfl (by omega) (fun h_3 => ?_) (fun h_3 => ?_)
          · show en_wp k_X6_waysFrom 96 [some (.inr (.inr (r_Squares, 0))), some (.inl f), some (.inl most), some (.inl c), some (.inl k)] [] (srl σ [(r_Squares_seen, SE9), (r_Squares_values, VV), (r_Squares_products, PD)]) _
            refine wp_run 2 (pc' := 52) (ls' := [some (.inr (.inr (r_Squares, 0))), some (.inl f), some (.inl most), some (.inl c), some (.inl (k + 1))]) (st' := []) (σ' := srl σ [(r_Squares_seen, SE9), (r_Squares_values, VV), (r_Squares_products, PD)]) rfl ?_
            exact ih_52 c (k + 1) SE9 VV PD hs2 (by omega) (by omega) (wf_skip hw9 (by omega)) (by omega)
          · show en_wp k_X6_waysFrom 78 [some (.inr (.inr (r_Squares, 0))), some (.inl f), some (.inl most), some (.inl c), some (.inl k)] [] (srl σ [(r_Squares_seen, SE9), (r_Squares_values, VV), (r_Squares_products, PD)]) _
            refine wp_run 3 (pc' := 82) (ls' := [some (.inr (.inr (r_Squares, 0))), some (.inl f), some (.inl most), some (.inl c), some (.inl k)]) (st' := [.inl k, .inr (.inr (r_Squares, 0)), .inl c]) (σ' := srl σ [(r_Squares_seen, SE9), (r_Squares_values, VV), (r_Squares_products, PD)]) rfl ?_
            refine wp_callv rfl rfl rfl rfl (ct_X6_markKind (srl σ [(r_Squares_seen, SE9), (r_Squares_values, VV), (r_Squares_products, PD)]) n D p k hI hsd hT hsq hse9 hs2 (by show 0 < k ∧ k < sqN (σ r_Squares_side 0) p; omega)) ?_
            rintro _ _ ⟨f_4, r_5, rfl, rfl, p_6, p_7, p_8⟩
            have p_6 : r_5 = sm (fun x => f_4 x - SE9 x) 81 := p_6
            have p_7 : mkI ((σ r_Squares_side) 0) p k (SE9) f_4 := p_7
            have p_8 : f_4 k = 1 := p_8
            refine wp_bk (l2 := [(r_Squares_seen, f_4), (r_Squares_values, VV), (r_Squares_products, PD)]) rfl rfl ?_
            show en_wp k_X6_waysFrom 85 [some (.inr (.inr (r_Squares, 0))), some (.inl f), some (.inl most), some (.inl c), some (.inl k)] [.inl r_5, .inl c] (srl σ [(r_Squares_seen, f_4), (r_Squares_values, VV), (r_Squares_products, PD)]) _
            have km := (⟨p_6, p_7, p_8⟩ : _ ∧ _ ∧ _)
            refine wp_run 4 (pc' := 90) (ls' := [some (.inr (.inr (r_Squares, 0))), some (.inl f), some (.inl most), some (.inl c), some (.inl k)]) (st' := [.inl most, .inl k, .inl f, .inr (.inr (r_Squares, 0)), .inl r_5, .inl c]) (σ' := srl σ [(r_Squares_seen, f_4), (r_Squares_values, VV), (r_Squares_products, PD)]) rfl ?_
            refine wp_callv rfl rfl rfl rfl (ct_X6_waysWith (srl σ [(r_Squares_seen, f_4), (r_Squares_values, VV), (r_Squares_products, PD)]) n D p f k most hI hsd hT hsq hml htl hlN (by omega) (by show 0 ≤ k ∧ k < sqN (σ r_Squares_side 0) p; omega) hms) ?_
            rintro _ _ ⟨f_9, f_10, r_11, rfl, rfl, p_12⟩
            have p_12 : r_11 = NwC ((σ r_Squares_side) 0) p n D ((σ r_Nought0_lengths)) ((σ r_Nought0_lawsNow) 0) ((σ r_Nought0_lawsR)) f k := p_12
            refine wp_bk (l2 := [(r_Squares_seen, f_4), (r_Squares_values, f_9), (r_Squares_products, f_10)]) rfl rfl ?_
            show en_wp k_X6_waysFrom 93 [some (.inr (.inr (r_Squares, 0))), some (.inl f), some (.inl most), some (.inl c), some (.inl k)] [.inl r_11, .inl r_5, .inl c] (srl σ [(r_Squares_seen, f_4), (r_Squares_values, f_9), (r_Squares_products, f_10)]) _
            have kw := p_12
            refine wp_run 5 (pc' := 52) (ls' := [some (.inr (.inr (r_Squares, 0))), some (.inl f), some (.inl most), some (.inl (c + (r_5 * r_11))), some (.inl (k + 1))]) (st' := []) (σ' := srl σ [(r_Squares_seen, f_4), (r_Squares_values, f_9), (r_Squares_products, f_10)]) rfl ?_
            exact ih_52 (c + (r_5 * r_11)) (k + 1) f_4 f_9 f_10 hs2 (by omega) (by omega) (by rw [kw]; exact wf_step hO6 hn0 hw9 (by omega) km.2.1 km.1 km.2.2) (by omega)
  have L_28 : ∀ (N : Nat) (i : Int) (SE9 : Int → Int), (σ r_Squares_side 0 = 2) → (0 ≤ i ∧ i ≤ 81) → (SE9 = seg (σ r_Squares_seen) 0 i (fun _ => 0)) → (81 - i).toNat < N → en_wp k_X6_waysFrom 28 [some (.inr (.inr (r_Squares, 0))), some (.inl f), some (.inl most), some (.inl 0), some (.inl i)] [] (srl σ [(r_Squares_seen, SE9)]) (fun r σ' => ∃ (f_Squares_values : Int → Int), ∃ (f_Squares_products : Int → Int), ∃ (f_Squares_seen : Int → Int), ∃ (rr : Int), r = some (.inl rr) ∧ σ' = srl σ [(r_Squares_values, f_Squares_values), (r_Squares_products, f_Squares_products), (r_Squares_seen, f_Squares_seen)] ∧ (rr = Aq (sqN ((σ r_Squares_side) 0) p) n (HWc ((σ r_Squares_side) 0) p n D ((σ r_Nought0_lengths)) ((σ r_Nought0_lawsNow) 0) ((σ r_Nought0_lawsR))) f (fun _ => 0)) ∧ (R01 f_Squares_seen)) := by
    intro N
    induction N with
    | zero => intro i SE9; intros; omega
    | succ N ih_28 =>
      intro i SE9 hs2 hi hS hN_28
      refine wp_run 2 (pc' := 32) (ls' := [some (.inr (.inr (r_Squares, 0))), some (.inl f), some (.inl most), some (.inl 0), some (.inl i)]) (st' := [.inl 81, .inl i]) (σ' := srl σ [(r_Squares_seen, SE9)]) rfl ?_
      refine wp_ic_ge rfl (by omega) (by omega) (fun h_13 => ?_) (fun h_13 => ?_)
      · show en_wp k_X6_waysFrom 49 [some (.inr (.inr (r_Squares, 0))), some (.inl f), some (.inl most), some (.inl 0), some (.inl i)] [] (srl σ [(r_Squares_seen, SE9)]) _
        refine wp_run 2 (pc' := 52) (ls' := [some (.inr (.inr (r_Squares, 0))), some (.inl f), some (.inl most), some (.inl 0), some (.inl 1)]) (st' := []) (σ' := srl σ [(r_Squares_seen, SE9)]) rfl ?_
        refine wp_mem (srl_eq (l' := [(r_Squares_seen, SE9), (r_Squares_values, (σ r_Squares_values)), (r_Squares_products, (σ r_Squares_products))]) (And.intro rfl trivial) (And.intro rfl (And.intro rfl (And.intro rfl trivial)))) ?_
        exact L_52 _ 0 1 SE9 (σ r_Squares_values) (σ r_Squares_products) hs2 (by omega) (by omega) (wf_0 (fun v a b => by rw [hS, seg_in0 (by omega)]) (by rw [hS]; exact R01_seg hse (fun _ _ _ => .inl rfl))) (Nat.lt_succ_self _)
      · show en_wp k_X6_waysFrom 35 [some (.inr (.inr (r_Squares, 0))), some (.inl f), some (.inl most), some (.inl 0), some (.inl i)] [] (srl σ [(r_Squares_seen, SE9)]) _
        refine wp_run 4 (pc' := 42) (ls' := [some (.inr (.inr (r_Squares, 0))), some (.inl f), some (.inl most), some (.inl 0), some (.inl i)]) (st' := [.inl 0, .inl i, .inr (.inr (r_Squares_seen, 0))]) (σ' := srl σ [(r_Squares_seen, SE9)]) rfl ?_
        refine wp_bast0 rfl rfl (by omega) (by omega) (wp_wr (l2 := [(r_Squares_seen, (up SE9 i 0))]) rfl ?_)
        show en_wp k_X6_waysFrom 43 [some (.inr (.inr (r_Squares, 0))), some (.inl f), some (.inl most), some (.inl 0), some (.inl i)] [] (srl σ [(r_Squares_seen, (up SE9 i 0))]) _
        refine wp_run 2 (pc' := 28) (ls' := [some (.inr (.inr (r_Squares, 0))), some (.inl f), some (.inl most), some (.inl 0), some (.inl (i + 1))]) (st' := []) (σ' := srl σ [(r_Squares_seen, (up SE9 i 0))]) rfl ?_
        exact ih_28 (i + 1) (up SE9 i 0) hs2 (by omega) (by rw [hS]; exact seg_up0 hi.1 rfl) (by omega)
  refine wp_run 3 (pc' := 5) (ls' := [some (.inr (.inr (r_Squares, 0))), some (.inl f), some (.inl most), none, none]) (st' := [.inl 1, .inl (σ r_Squares_side 0)]) (σ' := srl σ []) rfl ?_
  refine wp_ic_ne rfl (by omega) (by omega) (fun h_14 => ?_) (fun h_14 => ?_)
  · have hs2 : σ r_Squares_side 0 = 2 := by omega
    show en_wp k_X6_waysFrom 23 [some (.inr (.inr (r_Squares, 0))), some (.inl f), some (.inl most), none, none] [] (srl σ []) _
    refine wp_run 4 (pc' := 28) (ls' := [some (.inr (.inr (r_Squares, 0))), some (.inl f), some (.inl most), some (.inl 0), some (.inl 0)]) (st' := []) (σ' := srl σ []) rfl ?_
    refine wp_mem (srl_eq (l' := [(r_Squares_seen, (σ r_Squares_seen))]) trivial (And.intro rfl trivial)) ?_
    exact L_28 _ 0 (σ r_Squares_seen) hs2 (by omega) (seg_0 _ _ _).symm (Nat.lt_succ_self _)
  · have hs1 : σ r_Squares_side 0 = 1 := h_14
    show en_wp k_X6_waysFrom 8 [some (.inr (.inr (r_Squares, 0))), some (.inl f), some (.inl most), none, none] [] (srl σ []) _
    refine wp_run 8 (pc' := 18) (ls' := [some (.inr (.inr (r_Squares, 0))), some (.inl f), some (.inl most), none, none]) (st' := [.inl most, .inl 1, .inl f, .inr (.inr (r_Squares, 0)), .inl ((σ r_Squares_squares 0) - 1)]) (σ' := srl σ []) rfl ?_
    refine wp_callv rfl rfl rfl rfl (ct_X6_waysWith σ n D p f 1 most hI hsd hT hsq hml htl hlN (by omega) (by have h9 : sqN (σ r_Squares_side 0) p = p := (by rw [hs1]; exact if_pos rfl); show 0 ≤ (1 : Int) ∧ (1 : Int) < sqN (σ r_Squares_side 0) p; omega) hms) ?_
    rintro _ _ ⟨f_15, f_16, r_17, rfl, rfl, p_18⟩
    have p_18 : r_17 = NwC ((σ r_Squares_side) 0) p n D ((σ r_Nought0_lengths)) ((σ r_Nought0_lawsNow) 0) ((σ r_Nought0_lawsR)) f 1 := p_18
    show en_wp k_X6_waysFrom 21 [some (.inr (.inr (r_Squares, 0))), some (.inl f), some (.inl most), none, none] [.inl r_17, .inl ((σ r_Squares_squares 0) - 1)] (srl σ [(r_Squares_values, f_15), (r_Squares_products, f_16)]) _
    have kw := p_18
    refine wp_run 1 (pc' := 22) (ls' := [some (.inr (.inr (r_Squares, 0))), some (.inl f), some (.inl most), none, none]) (st' := [.inl (((σ r_Squares_squares 0) - 1) * r_17)]) (σ' := srl σ [(r_Squares_values, f_15), (r_Squares_products, f_16)]) rfl ?_
    exact wp_iret rfl ⟨f_15, f_16, (σ r_Squares_seen), (((σ r_Squares_squares 0) - 1) * r_17), rfl, srl_eq (l' := [(r_Squares_values, f_15), (r_Squares_products, f_16), (r_Squares_seen, σ r_Squares_seen)]) (And.intro rfl (And.intro rfl trivial)) (And.intro rfl (And.intro rfl (And.intro rfl trivial))), ⟨by rw [kw, hsq, hs1]; exact (congrArg (fun x => (x - 1) * _) (show sqN 1 p = p from if_pos rfl)).trans (wf_1 hO.2.2.2 hn0), hse⟩⟩
