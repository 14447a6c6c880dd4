/-! contracts of methods, walked (written by wip/whole/walk.py from the annotations ann_m16) -/
theorem ct_X12_multiply (σ : en_m) (n : Int) (D : Int) (p : Int) (to : Int) (a : Int) (b : Int) (hI : mI σ n D p) (h1 : i32 to) (h2 : i32 a) (h3 : i32 b) (hE : R97 ((σ r_Md_element))) (hma : R97 ((σ r_Md_made))) : en_ct z_X12_multiply [.inr (.inr (r_Md, 0)), .inl to, .inl a, .inl b] σ (fun r σ' => ∃ (f_Md_made : Int → Int), ∃ (f_Md_element : Int → Int), ∃ (rr : Int), r = some (.inl rr) ∧ σ' = srl σ [(r_Md_made, f_Md_made), (r_Md_element, f_Md_element)] ∧ ((¬ ((0 ≤ to ∧ to ≤ 5) ∧ (0 ≤ a ∧ a ≤ 5) ∧ (0 ≤ b ∧ b ≤ 5)) ∧ rr = -1 ∧ f_Md_element = (σ r_Md_element)) ∨ (((0 ≤ to ∧ to ≤ 5) ∧ (0 ≤ a ∧ a ≤ 5) ∧ (0 ≤ b ∧ b ≤ 5)) ∧ (0 ≤ sG (fun k => (σ r_Md_element) (400 * a + k)) (sS n D (D + 1)).toNat ∧ 0 ≤ sG (fun k => (σ r_Md_element) (400 * b + k)) (sS n D (D + 1)).toNat ∧ D < sL n D (sG (fun k => (σ r_Md_element) (400 * a + k)) (sS n D (D + 1)).toNat) + sL n D (sG (fun k => (σ r_Md_element) (400 * b + k)) (sS n D (D + 1)).toNat)) ∧ rr = -2 ∧ f_Md_element = (σ r_Md_element)) ∨ (((0 ≤ to ∧ to ≤ 5) ∧ (0 ≤ a ∧ a ≤ 5) ∧ (0 ≤ b ∧ b ≤ 5)) ∧ ¬ (0 ≤ sG (fun k => (σ r_Md_element) (400 * a + k)) (sS n D (D + 1)).toNat ∧ 0 ≤ sG (fun k => (σ r_Md_element) (400 * b + k)) (sS n D (D + 1)).toNat ∧ D < sL n D (sG (fun k => (σ r_Md_element) (400 * a + k)) (sS n D (D + 1)).toNat) + sL n D (sG (fun k => (σ r_Md_element) (400 * b + k)) (sS n D (D + 1)).toNat)) ∧ rr = 0 ∧ f_Md_element = seg ((σ r_Md_element)) (400 * to) (sS n D (D + 1)) (fun x => prd n D (fun x => (σ r_Md_element) (400 * a + x)) (fun x => (σ r_Md_element) (400 * b + x)) x % p))) ∧ (R97 f_Md_made)) := by
  show en_wp k_X12_multiply 0 [some (.inr (.inr (r_Md, 0))), some (.inl to), some (.inl a), some (.inl b), none] [] (srl σ []) (fun r σ' => ∃ (f_Md_made : Int → Int), ∃ (f_Md_element : Int → Int), ∃ (rr : Int), r = some (.inl rr) ∧ σ' = srl σ [(r_Md_made, f_Md_made), (r_Md_element, f_Md_element)] ∧ ((¬ ((0 ≤ to ∧ to ≤ 5) ∧ (0 ≤ a ∧ a ≤ 5) ∧ (0 ≤ b ∧ b ≤ 5)) ∧ rr = -1 ∧ f_Md_element = (σ r_Md_element)) ∨ (((0 ≤ to ∧ to ≤ 5) ∧ (0 ≤ a ∧ a ≤ 5) ∧ (0 ≤ b ∧ b ≤ 5)) ∧ (0 ≤ sG (fun k => (σ r_Md_element) (400 * a + k)) (sS n D (D + 1)).toNat ∧ 0 ≤ sG (fun k => (σ r_Md_element) (400 * b + k)) (sS n D (D + 1)).toNat ∧ D < sL n D (sG (fun k => (σ r_Md_element) (400 * a + k)) (sS n D (D + 1)).toNat) + sL n D (sG (fun k => (σ r_Md_element) (400 * b + k)) (sS n D (D + 1)).toNat)) ∧ rr = -2 ∧ f_Md_element = (σ r_Md_element)) ∨ (((0 ≤ to ∧ to ≤ 5) ∧ (0 ≤ a ∧ a ≤ 5) ∧ (0 ≤ b ∧ b ≤ 5)) ∧ ¬ (0 ≤ sG (fun k => (σ r_Md_element) (400 * a + k)) (sS n D (D + 1)).toNat ∧ 0 ≤ sG (fun k => (σ r_Md_element) (400 * b + k)) (sS n D (D + 1)).toNat ∧ D < sL n D (sG (fun k => (σ r_Md_element) (400 * a + k)) (sS n D (D + 1)).toNat) + sL n D (sG (fun k => (σ r_Md_element) (400 * b + k)) (sS n D (D + 1)).toNat)) ∧ rr = 0 ∧ f_Md_element = seg ((σ r_Md_element)) (400 * to) (sS n D (D + 1)) (fun x => prd n D (fun x => (σ r_Md_element) (400 * a + x)) (fun x => (σ r_Md_element) (400 * b + x)) x % p))) ∧ (R97 f_Md_made))
  have hI2 := hI
  obtain ⟨hO, hL, hn, hD, hp, hpw, hst⟩ := hI2
  obtain ⟨⟨hO1, hO2⟩, ⟨hO3, hO4⟩, hO5, hO6, hO7, hO8⟩ := id hO
  have hAb := sS_b (k := D + 1) hO
  have L_60 : ∀ (N : Nat) (k : Int) (B : Int → Int) (X : Int → Int), (((0 ≤ to ∧ to ≤ 5) ∧ (0 ≤ a ∧ a ≤ 5) ∧ (0 ≤ b ∧ b ≤ 5))) → (¬ (0 ≤ sG (fun k => σ r_Md_element (400 * a + k)) (sS n D (D + 1)).toNat ∧ 0 ≤ sG (fun k => σ r_Md_element (400 * b + k)) (sS n D (D + 1)).toNat ∧ D < sL n D (sG (fun k => σ r_Md_element (400 * a + k)) (sS n D (D + 1)).toNat) + sL n D (sG (fun k => σ r_Md_element (400 * b + k)) (sS n D (D + 1)).toNat))) → (0 ≤ k ∧ k ≤ sS n D (D + 1)) → ((∀ x, 0 ≤ x → x < sS n D (D + 1) → B x = prd n D (fun x => σ r_Md_element (400 * a + x)) (fun x => σ r_Md_element (400 * b + x)) x % p) ∧ R97 B) → (X = seg (σ r_Md_element) (400 * to) k (fun x => prd n D (fun x => σ r_Md_element (400 * a + x)) (fun x => σ r_Md_element (400 * b + x)) x % p)) → (sS n D (D + 1) - k).toNat < N → en_wp k_X12_multiply 60 [some (.inr (.inr (r_Md, 0))), some (.inl to), some (.inl a), some (.inl b), some (.inl k)] [] (srl σ [(r_Md_made, B), (r_Md_element, X)]) (fun r σ' => ∃ (f_Md_made : Int → Int), ∃ (f_Md_element : Int → Int), ∃ (rr : Int), r = some (.inl rr) ∧ σ' = srl σ [(r_Md_made, f_Md_made), (r_Md_element, f_Md_element)] ∧ ((¬ ((0 ≤ to ∧ to ≤ 5) ∧ (0 ≤ a ∧ a ≤ 5) ∧ (0 ≤ b ∧ b ≤ 5)) ∧ rr = -1 ∧ f_Md_element = (σ r_Md_element)) ∨ (((0 ≤ to ∧ to ≤ 5) ∧ (0 ≤ a ∧ a ≤ 5) ∧ (0 ≤ b ∧ b ≤ 5)) ∧ (0 ≤ sG (fun k => (σ r_Md_element) (400 * a + k)) (sS n D (D + 1)).toNat ∧ 0 ≤ sG (fun k => (σ r_Md_element) (400 * b + k)) (sS n D (D + 1)).toNat ∧ D < sL n D (sG (fun k => (σ r_Md_element) (400 * a + k)) (sS n D (D + 1)).toNat) + sL n D (sG (fun k => (σ r_Md_element) (400 * b + k)) (sS n D (D + 1)).toNat)) ∧ rr = -2 ∧ f_Md_element = (σ r_Md_element)) ∨ (((0 ≤ to ∧ to ≤ 5) ∧ (0 ≤ a ∧ a ≤ 5) ∧ (0 ≤ b ∧ b ≤ 5)) ∧ ¬ (0 ≤ sG (fun k => (σ r_Md_element) (400 * a + k)) (sS n D (D + 1)).toNat ∧ 0 ≤ sG (fun k => (σ r_Md_element) (400 * b + k)) (sS n D (D + 1)).toNat ∧ D < sL n D (sG (fun k => (σ r_Md_element) (400 * a + k)) (sS n D (D + 1)).toNat) + sL n D (sG (fun k => (σ r_Md_element) (400 * b + k)) (sS n D (D + 1)).toNat)) ∧ rr = 0 ∧ f_Md_element = seg ((σ r_Md_element)) (400 * to) (sS n D (D + 1)) (fun x => prd n D (fun x => (σ r_Md_element) (400 * a + x)) (fun x => (σ r_Md_element) (400 * b + x)) x % p))) ∧ (R97 f_Md_made)) := by
    intro N
    induction N with
    | zero => intro k B X; intros; omega
    | succ N ih_60 =>
      intro k B X hv hTL hk hB hX hN_60
      refine wp_run 2 (pc' := 63) (ls' := [some (.inr (.inr (r_Md, 0))), some (.inl to), some (.inl a), some (.inl b), some (.inl k)]) (st' := [.inr (.inr (r_Md, 0)), .inl k]) (σ' := srl σ [(r_Md_made, B), (r_Md_element, X)]) rfl ?_
      refine wp_fnv (v := .inl (sS n D (D + 1))) rfl rfl rfl rfl (ct_X12_all (srl σ [(r_Md_made, B), (r_Md_element, X)]) n D p hI) ?_
      show en_wp k_X12_multiply 66 [some (.inr (.inr (r_Md, 0))), some (.inl to), some (.inl a), some (.inl b), some (.inl k)] [.inl (sS n D (D + 1)), .inl k] (srl σ [(r_Md_made, B), (r_Md_element, X)]) _
      have q_1 : 0 ≤ sS n D (D + 1) ∧ sS n D (D + 1) ≤ 364 := sS_b hO
      refine wp_ic_ge rfl (by omega) (by omega) (fun h_2 => ?_) (fun h_2 => ?_)
      · show en_wp k_X12_multiply 95 [some (.inr (.inr (r_Md, 0))), some (.inl to), some (.inl a), some (.inl b), some (.inl k)] [] (srl σ [(r_Md_made, B), (r_Md_element, X)]) _
        refine wp_run 1 (pc' := 96) (ls' := [some (.inr (.inr (r_Md, 0))), some (.inl to), some (.inl a), some (.inl b), some (.inl k)]) (st' := [.inl 0]) (σ' := srl σ [(r_Md_made, B), (r_Md_element, X)]) rfl ?_
        exact wp_iret rfl ⟨B, X, 0, rfl, srl_eq (l' := [(r_Md_made, B), (r_Md_element, X)]) (And.intro rfl (And.intro rfl trivial)) (And.intro rfl (And.intro rfl trivial)), ⟨.inr (.inr ⟨hv, hTL, rfl, by rw [hX, show k = sS n D (D + 1) by omega]⟩), hB.2⟩⟩
      · show en_wp k_X12_multiply 69 [some (.inr (.inr (r_Md, 0))), some (.inl to), some (.inl a), some (.inl b), some (.inl k)] [] (srl σ [(r_Md_made, B), (r_Md_element, X)]) _
        refine wp_run 10 (pc' := 87) (ls' := [some (.inr (.inr (r_Md, 0))), some (.inl to), some (.inl a), some (.inl b), some (.inl k)]) (st' := [.inl k, .inr (.inr (r_Md_made, 0)), .inl ((400 * to) + k), .inr (.inr (r_Md_element, 0))]) (σ' := srl σ [(r_Md_made, B), (r_Md_element, X)]) rfl ?_
        refine wp_iald0 rfl rfl (by omega) ?_
        show en_wp k_X12_multiply 88 [some (.inr (.inr (r_Md, 0))), some (.inl to), some (.inl a), some (.inl b), some (.inl k)] [.inl (B k), .inl ((400 * to) + k), .inr (.inr (r_Md_element, 0))] (srl σ [(r_Md_made, B), (r_Md_element, X)]) _
        refine wp_iast0 rfl rfl (by omega) (wp_wr (l2 := [(r_Md_made, B), (r_Md_element, (up X ((400 * to) + k) (B k)))]) rfl ?_)
        show en_wp k_X12_multiply 89 [some (.inr (.inr (r_Md, 0))), some (.inl to), some (.inl a), some (.inl b), some (.inl k)] [] (srl σ [(r_Md_made, B), (r_Md_element, (up X ((400 * to) + k) (B k)))]) _
        refine wp_run 2 (pc' := 60) (ls' := [some (.inr (.inr (r_Md, 0))), some (.inl to), some (.inl a), some (.inl b), some (.inl (k + 1))]) (st' := []) (σ' := srl σ [(r_Md_made, B), (r_Md_element, (up X ((400 * to) + k) (B k)))]) rfl ?_
        exact ih_60 (k + 1) B (up X ((400 * to) + k) (B k)) hv hTL (by omega) hB (by rw [hX]; exact seg_up hk.1 (hB.1 k hk.1 (by omega))) (by omega)
  refine wp_run 1 (pc' := 1) (ls' := [some (.inr (.inr (r_Md, 0))), some (.inl to), some (.inl a), some (.inl b), none]) (st' := [.inl to]) (σ' := srl σ []) rfl ?_
  refine wp_fns (v := .inl (bI (0 ≤ to ∧ to ≤ 5))) rfl rfl rfl rfl rfl (ct_X12_isElement σ to (by omega)) ?_
  show en_wp k_X12_multiply 4 [some (.inr (.inr (r_Md, 0))), some (.inl to), some (.inl a), some (.inl b), none] [.inl (bI (0 ≤ to ∧ to ≤ 5))] (srl σ []) _
  refine wp_if_eqb rfl (fun h_3 => ?_) (fun h_3 => ?_)
  · show en_wp k_X12_multiply 21 [some (.inr (.inr (r_Md, 0))), some (.inl to), some (.inl a), some (.inl b), none] [] (srl σ []) _
    refine wp_run 1 (pc' := 22) (ls' := [some (.inr (.inr (r_Md, 0))), some (.inl to), some (.inl a), some (.inl b), none]) (st' := [.inl (-1)]) (σ' := srl σ []) rfl ?_
    exact wp_iret rfl ⟨(σ r_Md_made), (σ r_Md_element), (-1), rfl, srl_eq (l' := [(r_Md_made, σ r_Md_made), (r_Md_element, σ r_Md_element)]) trivial (And.intro rfl (And.intro rfl trivial)), ⟨.inl ⟨by omega, rfl, rfl⟩, hma⟩⟩
  · show en_wp k_X12_multiply 7 [some (.inr (.inr (r_Md, 0))), some (.inl to), some (.inl a), some (.inl b), none] [] (srl σ []) _
    refine wp_run 1 (pc' := 8) (ls' := [some (.inr (.inr (r_Md, 0))), some (.inl to), some (.inl a), some (.inl b), none]) (st' := [.inl a]) (σ' := srl σ []) rfl ?_
    refine wp_fns (v := .inl (bI (0 ≤ a ∧ a ≤ 5))) rfl rfl rfl rfl rfl (ct_X12_isElement σ a (by omega)) ?_
    show en_wp k_X12_multiply 11 [some (.inr (.inr (r_Md, 0))), some (.inl to), some (.inl a), some (.inl b), none] [.inl (bI (0 ≤ a ∧ a ≤ 5))] (srl σ []) _
    refine wp_if_eqb rfl (fun h_4 => ?_) (fun h_4 => ?_)
    · show en_wp k_X12_multiply 21 [some (.inr (.inr (r_Md, 0))), some (.inl to), some (.inl a), some (.inl b), none] [] (srl σ []) _
      refine wp_run 1 (pc' := 22) (ls' := [some (.inr (.inr (r_Md, 0))), some (.inl to), some (.inl a), some (.inl b), none]) (st' := [.inl (-1)]) (σ' := srl σ []) rfl ?_
      exact wp_iret rfl ⟨(σ r_Md_made), (σ r_Md_element), (-1), rfl, srl_eq (l' := [(r_Md_made, σ r_Md_made), (r_Md_element, σ r_Md_element)]) trivial (And.intro rfl (And.intro rfl trivial)), ⟨.inl ⟨by omega, rfl, rfl⟩, hma⟩⟩
    · show en_wp k_X12_multiply 14 [some (.inr (.inr (r_Md, 0))), some (.inl to), some (.inl a), some (.inl b), none] [] (srl σ []) _
      refine wp_run 1 (pc' := 15) (ls' := [some (.inr (.inr (r_Md, 0))), some (.inl to), some (.inl a), some (.inl b), none]) (st' := [.inl b]) (σ' := srl σ []) rfl ?_
      refine wp_fns (v := .inl (bI (0 ≤ b ∧ b ≤ 5))) rfl rfl rfl rfl rfl (ct_X12_isElement σ b (by omega)) ?_
      show en_wp k_X12_multiply 18 [some (.inr (.inr (r_Md, 0))), some (.inl to), some (.inl a), some (.inl b), none] [.inl (bI (0 ≤ b ∧ b ≤ 5))] (srl σ []) _
      refine wp_if_neb rfl (fun h_5 => ?_) (fun h_5 => ?_)
      · show en_wp k_X12_multiply 23 [some (.inr (.inr (r_Md, 0))), some (.inl to), some (.inl a), some (.inl b), none] [] (srl σ []) _
        refine wp_run 3 (pc' := 26) (ls' := [some (.inr (.inr (r_Md, 0))), some (.inl to), some (.inl a), some (.inl b), none]) (st' := [.inl b, .inl a, .inr (.inr (r_Md, 0))]) (σ' := srl σ []) rfl ?_
        refine wp_fnv (v := .inl (bI (0 ≤ sG (fun k => (σ r_Md_element) (400 * a + k)) (sS n D (D + 1)).toNat ∧ 0 ≤ sG (fun k => (σ r_Md_element) (400 * b + k)) (sS n D (D + 1)).toNat ∧ D < sL n D (sG (fun k => (σ r_Md_element) (400 * a + k)) (sS n D (D + 1)).toNat) + sL n D (sG (fun k => (σ r_Md_element) (400 * b + k)) (sS n D (D + 1)).toNat)))) rfl rfl rfl rfl (ct_X12_isTooLong σ n D p a b hI hE (by omega) (by omega)) ?_
        show en_wp k_X12_multiply 29 [some (.inr (.inr (r_Md, 0))), some (.inl to), some (.inl a), some (.inl b), none] [.inl (bI (0 ≤ sG (fun k => (σ r_Md_element) (400 * a + k)) (sS n D (D + 1)).toNat ∧ 0 ≤ sG (fun k => (σ r_Md_element) (400 * b + k)) (sS n D (D + 1)).toNat ∧ D < sL n D (sG (fun k => (σ r_Md_element) (400 * a + k)) (sS n D (D + 1)).toNat) + sL n D (sG (fun k => (σ r_Md_element) (400 * b + k)) (sS n D (D + 1)).toNat)))] (srl σ []) _
        refine wp_if_eqb rfl (fun h_6 => ?_) (fun h_6 => ?_)
        · have hTL := h_6
          show en_wp k_X12_multiply 35 [some (.inr (.inr (r_Md, 0))), some (.inl to), some (.inl a), some (.inl b), none] [] (srl σ []) _
          refine wp_run 11 (pc' := 54) (ls' := [some (.inr (.inr (r_Md, 0))), some (.inl to), some (.inl a), some (.inl b), none]) (st' := [.inl (400 * b), .inr (.inr (r_Md_element, 0)), .inl (400 * a), .inr (.inr (r_Md_element, 0)), .inr (.inr (r_Md, 0))]) (σ' := srl σ []) rfl ?_
          refine wp_callv rfl rfl rfl rfl (ct_X12_multiplies_Md_element_Md_element σ n D p (400 * a) (400 * b) hI (by omega) hE hE hma) ?_
          rintro _ _ ⟨f_7, rfl, rfl, p_8, p_9, p_10⟩
          have p_8 : ∀ x, 0 ≤ x → x < sS n D (D + 1) → f_7 x = prd n D (fun x => (σ r_Md_element) ((400 * a) + x)) (fun x => (σ r_Md_element) ((400 * b) + x)) x % p := p_8
          have p_9 : ∀ x, sS n D (D + 1) ≤ x → x < 400 → f_7 x = 0 := p_9
          have p_10 : R97 f_7 := p_10
          show en_wp k_X12_multiply 57 [some (.inr (.inr (r_Md, 0))), some (.inl to), some (.inl a), some (.inl b), none] [] (srl σ [(r_Md_made, f_7)]) _
          have kp := (⟨p_8, p_9, p_10⟩ : _ ∧ _ ∧ _)
          refine wp_run 2 (pc' := 60) (ls' := [some (.inr (.inr (r_Md, 0))), some (.inl to), some (.inl a), some (.inl b), some (.inl 0)]) (st' := []) (σ' := srl σ [(r_Md_made, f_7)]) rfl ?_
          refine wp_mem (srl_eq (l' := [(r_Md_made, f_7), (r_Md_element, (σ r_Md_element))]) (And.intro rfl trivial) (And.intro rfl (And.intro rfl trivial))) ?_
          exact L_60 _ 0 f_7 (σ r_Md_element) (by omega) hTL (by omega) ⟨kp.1, kp.2.2⟩ (seg_0 _ _ _).symm (Nat.lt_succ_self _)
        · have hTL1 := h_6
          show en_wp k_X12_multiply 32 [some (.inr (.inr (r_Md, 0))), some (.inl to), some (.inl a), some (.inl b), none] [] (srl σ []) _
          refine wp_run 1 (pc' := 34) (ls' := [some (.inr (.inr (r_Md, 0))), some (.inl to), some (.inl a), some (.inl b), none]) (st' := [.inl (-2)]) (σ' := srl σ []) rfl ?_
          exact wp_iret rfl ⟨(σ r_Md_made), (σ r_Md_element), (-2), rfl, srl_eq (l' := [(r_Md_made, σ r_Md_made), (r_Md_element, σ r_Md_element)]) trivial (And.intro rfl (And.intro rfl trivial)), ⟨.inr (.inl ⟨by omega, hTL1, rfl, rfl⟩), hma⟩⟩
      · show en_wp k_X12_multiply 21 [some (.inr (.inr (r_Md, 0))), some (.inl to), some (.inl a), some (.inl b), none] [] (srl σ []) _
        refine wp_run 1 (pc' := 22) (ls' := [some (.inr (.inr (r_Md, 0))), some (.inl to), some (.inl a), some (.inl b), none]) (st' := [.inl (-1)]) (σ' := srl σ []) rfl ?_
        exact wp_iret rfl ⟨(σ r_Md_made), (σ r_Md_element), (-1), rfl, srl_eq (l' := [(r_Md_made, σ r_Md_made), (r_Md_element, σ r_Md_element)]) trivial (And.intro rfl (And.intro rfl trivial)), ⟨.inl ⟨by omega, rfl, rfl⟩, hma⟩⟩
theorem ct_X12_commute (σ : en_m) (n : Int) (D : Int) (p : Int) (to : Int) (a : Int) (b : Int) (hI : mI σ n D p) (h1 : i32 to) (h2 : i32 a) (h3 : i32 b) (hE : R97 ((σ r_Md_element))) (hma : R97 ((σ r_Md_made))) (hkt : R97 ((σ r_Md_kept))) : en_ct z_X12_commute [.inr (.inr (r_Md, 0)), .inl to, .inl a, .inl b] σ (fun r σ' => ∃ (f_Md_made : Int → Int), ∃ (f_Md_kept : Int → Int), ∃ (f_Md_element : Int → Int), ∃ (rr : Int), r = some (.inl rr) ∧ σ' = srl σ [(r_Md_made, f_Md_made), (r_Md_kept, f_Md_kept), (r_Md_element, f_Md_element)] ∧ ((¬ ((0 ≤ to ∧ to ≤ 5) ∧ (0 ≤ a ∧ a ≤ 5) ∧ (0 ≤ b ∧ b ≤ 5)) ∧ rr = -1 ∧ f_Md_element = (σ r_Md_element)) ∨ (((0 ≤ to ∧ to ≤ 5) ∧ (0 ≤ a ∧ a ≤ 5) ∧ (0 ≤ b ∧ b ≤ 5)) ∧ (0 ≤ sG (fun k => (σ r_Md_element) (400 * a + k)) (sS n D (D + 1)).toNat ∧ 0 ≤ sG (fun k => (σ r_Md_element) (400 * b + k)) (sS n D (D + 1)).toNat ∧ D < sL n D (sG (fun k => (σ r_Md_element) (400 * a + k)) (sS n D (D + 1)).toNat) + sL n D (sG (fun k => (σ r_Md_element) (400 * b + k)) (sS n D (D + 1)).toNat)) ∧ rr = -2 ∧ f_Md_element = (σ r_Md_element)) ∨ (((0 ≤ to ∧ to ≤ 5) ∧ (0 ≤ a ∧ a ≤ 5) ∧ (0 ≤ b ∧ b ≤ 5)) ∧ ¬ (0 ≤ sG (fun k => (σ r_Md_element) (400 * a + k)) (sS n D (D + 1)).toNat ∧ 0 ≤ sG (fun k => (σ r_Md_element) (400 * b + k)) (sS n D (D + 1)).toNat ∧ D < sL n D (sG (fun k => (σ r_Md_element) (400 * a + k)) (sS n D (D + 1)).toNat) + sL n D (sG (fun k => (σ r_Md_element) (400 * b + k)) (sS n D (D + 1)).toNat)) ∧ rr = 0 ∧ f_Md_element = seg ((σ r_Md_element)) (400 * to) (sS n D (D + 1)) (fun x => (prd n D (fun x => (σ r_Md_element) (400 * a + x)) (fun x => (σ r_Md_element) (400 * b + x)) x - prd n D (fun x => (σ r_Md_element) (400 * b + x)) (fun x => (σ r_Md_element) (400 * a + x)) x) % p))) ∧ (R97 f_Md_made) ∧ (R97 f_Md_kept)) := by
  show en_wp k_X12_commute 0 [some (.inr (.inr (r_Md, 0))), some (.inl to), some (.inl a), some (.inl b), none] [] (srl σ []) (fun r σ' => ∃ (f_Md_made : Int → Int), ∃ (f_Md_kept : Int → Int), ∃ (f_Md_element : Int → Int), ∃ (rr : Int), r = some (.inl rr) ∧ σ' = srl σ [(r_Md_made, f_Md_made), (r_Md_kept, f_Md_kept), (r_Md_element, f_Md_element)] ∧ ((¬ ((0 ≤ to ∧ to ≤ 5) ∧ (0 ≤ a ∧ a ≤ 5) ∧ (0 ≤ b ∧ b ≤ 5)) ∧ rr = -1 ∧ f_Md_element = (σ r_Md_element)) ∨ (((0 ≤ to ∧ to ≤ 5) ∧ (0 ≤ a ∧ a ≤ 5) ∧ (0 ≤ b ∧ b ≤ 5)) ∧ (0 ≤ sG (fun k => (σ r_Md_element) (400 * a + k)) (sS n D (D + 1)).toNat ∧ 0 ≤ sG (fun k => (σ r_Md_element) (400 * b + k)) (sS n D (D + 1)).toNat ∧ D < sL n D (sG (fun k => (σ r_Md_element) (400 * a + k)) (sS n D (D + 1)).toNat) + sL n D (sG (fun k => (σ r_Md_element) (400 * b + k)) (sS n D (D + 1)).toNat)) ∧ rr = -2 ∧ f_Md_element = (σ r_Md_element)) ∨ (((0 ≤ to ∧ to ≤ 5) ∧ (0 ≤ a ∧ a ≤ 5) ∧ (0 ≤ b ∧ b ≤ 5)) ∧ ¬ (0 ≤ sG (fun k => (σ r_Md_element) (400 * a + k)) (sS n D (D + 1)).toNat ∧ 0 ≤ sG (fun k => (σ r_Md_element) (400 * b + k)) (sS n D (D + 1)).toNat ∧ D < sL n D (sG (fun k => (σ r_Md_element) (400 * a + k)) (sS n D (D + 1)).toNat) + sL n D (sG (fun k => (σ r_Md_element) (400 * b + k)) (sS n D (D + 1)).toNat)) ∧ rr = 0 ∧ f_Md_element = seg ((σ r_Md_element)) (400 * to) (sS n D (D + 1)) (fun x => (prd n D (fun x => (σ r_Md_element) (400 * a + x)) (fun x => (σ r_Md_element) (400 * b + x)) x - prd n D (fun x => (σ r_Md_element) (400 * b + x)) (fun x => (σ r_Md_element) (400 * a + x)) x) % p))) ∧ (R97 f_Md_made) ∧ (R97 f_Md_kept))
  have hI2 := hI
  obtain ⟨hO, hL, hn, hD, hp, hpw, hst⟩ := hI2
  obtain ⟨⟨hO1, hO2⟩, ⟨hO3, hO4⟩, hO5, hO6, hO7, hO8⟩ := id hO
  have hAb := sS_b (k := D + 1) hO
  have hpb := fun x => @sR_lt p (prd n D (fun x => σ r_Md_element (400 * a + x)) (fun x => σ r_Md_element (400 * b + x)) x) hO.2.2.2
  have hpc := fun x => @sR_lt p (prd n D (fun x => σ r_Md_element (400 * b + x)) (fun x => σ r_Md_element (400 * a + x)) x) hO.2.2.2
  have L_114 : ∀ (N : Nat) (k : Int) (B : Int → Int) (K : Int → Int) (X : Int → Int), (((0 ≤ to ∧ to ≤ 5) ∧ (0 ≤ a ∧ a ≤ 5) ∧ (0 ≤ b ∧ b ≤ 5))) → (¬ (0 ≤ sG (fun k => σ r_Md_element (400 * a + k)) (sS n D (D + 1)).toNat ∧ 0 ≤ sG (fun k => σ r_Md_element (400 * b + k)) (sS n D (D + 1)).toNat ∧ D < sL n D (sG (fun k => σ r_Md_element (400 * a + k)) (sS n D (D + 1)).toNat) + sL n D (sG (fun k => σ r_Md_element (400 * b + k)) (sS n D (D + 1)).toNat))) → (0 ≤ k ∧ k ≤ sS n D (D + 1)) → ((∀ x, 0 ≤ x → x < sS n D (D + 1) → B x = prd n D (fun x => σ r_Md_element (400 * b + x)) (fun x => σ r_Md_element (400 * a + x)) x % p) ∧ R97 B) → ((∀ x, 0 ≤ x → x < sS n D (D + 1) → K x = prd n D (fun x => σ r_Md_element (400 * a + x)) (fun x => σ r_Md_element (400 * b + x)) x % p) ∧ R97 K) → (X = seg (σ r_Md_element) (400 * to) k (fun x => (prd n D (fun x => σ r_Md_element (400 * a + x)) (fun x => σ r_Md_element (400 * b + x)) x - prd n D (fun x => σ r_Md_element (400 * b + x)) (fun x => σ r_Md_element (400 * a + x)) x) % p)) → (sS n D (D + 1) - k).toNat < N → en_wp k_X12_commute 114 [some (.inr (.inr (r_Md, 0))), some (.inl to), some (.inl a), some (.inl b), some (.inl k)] [] (srl σ [(r_Md_made, B), (r_Md_kept, K), (r_Md_element, X)]) (fun r σ' => ∃ (f_Md_made : Int → Int), ∃ (f_Md_kept : Int → Int), ∃ (f_Md_element : Int → Int), ∃ (rr : Int), r = some (.inl rr) ∧ σ' = srl σ [(r_Md_made, f_Md_made), (r_Md_kept, f_Md_kept), (r_Md_element, f_Md_element)] ∧ ((¬ ((0 ≤ to ∧ to ≤ 5) ∧ (0 ≤ a ∧ a ≤ 5) ∧ (0 ≤ b ∧ b ≤ 5)) ∧ rr = -1 ∧ f_Md_element = (σ r_Md_element)) ∨ (((0 ≤ to ∧ to ≤ 5) ∧ (0 ≤ a ∧ a ≤ 5) ∧ (0 ≤ b ∧ b ≤ 5)) ∧ (0 ≤ sG (fun k => (σ r_Md_element) (400 * a + k)) (sS n D (D + 1)).toNat ∧ 0 ≤ sG (fun k => (σ r_Md_element) (400 * b + k)) (sS n D (D + 1)).toNat ∧ D < sL n D (sG (fun k => (σ r_Md_element) (400 * a + k)) (sS n D (D + 1)).toNat) + sL n D (sG (fun k => (σ r_Md_element) (400 * b + k)) (sS n D (D + 1)).toNat)) ∧ rr = -2 ∧ f_Md_element = (σ r_Md_element)) ∨ (((0 ≤ to ∧ to ≤ 5) ∧ (0 ≤ a ∧ a ≤ 5) ∧ (0 ≤ b ∧ b ≤ 5)) ∧ ¬ (0 ≤ sG (fun k => (σ r_Md_element) (400 * a + k)) (sS n D (D + 1)).toNat ∧ 0 ≤ sG (fun k => (σ r_Md_element) (400 * b + k)) (sS n D (D + 1)).toNat ∧ D < sL n D (sG (fun k => (σ r_Md_element) (400 * a + k)) (sS n D (D + 1)).toNat) + sL n D (sG (fun k => (σ r_Md_element) (400 * b + k)) (sS n D (D + 1)).toNat)) ∧ rr = 0 ∧ f_Md_element = seg ((σ r_Md_element)) (400 * to) (sS n D (D + 1)) (fun x => (prd n D (fun x => (σ r_Md_element) (400 * a + x)) (fun x => (σ r_Md_element) (400 * b + x)) x - prd n D (fun x => (σ r_Md_element) (400 * b + x)) (fun x => (σ r_Md_element) (400 * a + x)) x) % p))) ∧ (R97 f_Md_made) ∧ (R97 f_Md_kept)) := by
    intro N
    induction N with
    | zero => intro k B K X; intros; omega
    | succ N ih_114 =>
      intro k B K X hv hTL hk hB hK hX hN_114
      refine wp_run 2 (pc' := 117) (ls' := [some (.inr (.inr (r_Md, 0))), some (.inl to), some (.inl a), some (.inl b), some (.inl k)]) (st' := [.inr (.inr (r_Md, 0)), .inl k]) (σ' := srl σ [(r_Md_made, B), (r_Md_kept, K), (r_Md_element, X)]) rfl ?_
      refine wp_fnv (v := .inl (sS n D (D + 1))) rfl rfl rfl rfl (ct_X12_all (srl σ [(r_Md_made, B), (r_Md_kept, K), (r_Md_element, X)]) n D p hI) ?_
      show en_wp k_X12_commute 120 [some (.inr (.inr (r_Md, 0))), some (.inl to), some (.inl a), some (.inl b), some (.inl k)] [.inl (sS n D (D + 1)), .inl k] (srl σ [(r_Md_made, B), (r_Md_kept, K), (r_Md_element, X)]) _
      have q_1 : 0 ≤ sS n D (D + 1) ∧ sS n D (D + 1) ≤ 364 := sS_b hO
      refine wp_ic_ge rfl (by omega) (by omega) (fun h_2 => ?_) (fun h_2 => ?_)
      · show en_wp k_X12_commute 162 [some (.inr (.inr (r_Md, 0))), some (.inl to), some (.inl a), some (.inl b), some (.inl k)] [] (srl σ [(r_Md_made, B), (r_Md_kept, K), (r_Md_element, X)]) _
        refine wp_run 1 (pc' := 163) (ls' := [some (.inr (.inr (r_Md, 0))), some (.inl to), some (.inl a), some (.inl b), some (.inl k)]) (st' := [.inl 0]) (σ' := srl σ [(r_Md_made, B), (r_Md_kept, K), (r_Md_element, X)]) rfl ?_
        exact wp_iret rfl ⟨B, K, X, 0, rfl, srl_eq (l' := [(r_Md_made, B), (r_Md_kept, K), (r_Md_element, X)]) (And.intro rfl (And.intro rfl (And.intro rfl trivial))) (And.intro rfl (And.intro rfl (And.intro rfl trivial))), ⟨.inr (.inr ⟨hv, hTL, rfl, by rw [hX, show k = sS n D (D + 1) by omega]⟩), hB.2, hK.2⟩⟩
      · show en_wp k_X12_commute 123 [some (.inr (.inr (r_Md, 0))), some (.inl to), some (.inl a), some (.inl b), some (.inl k)] [] (srl σ [(r_Md_made, B), (r_Md_kept, K), (r_Md_element, X)]) _
        refine wp_run 11 (pc' := 142) (ls' := [some (.inr (.inr (r_Md, 0))), some (.inl to), some (.inl a), some (.inl b), some (.inl k)]) (st' := [.inl k, .inr (.inr (r_Md_kept, 0)), .inr (.inr (r_Md, 0)), .inl ((400 * to) + k), .inr (.inr (r_Md_element, 0))]) (σ' := srl σ [(r_Md_made, B), (r_Md_kept, K), (r_Md_element, X)]) rfl ?_
        refine wp_iald0 rfl rfl (by omega) ?_
        show en_wp k_X12_commute 143 [some (.inr (.inr (r_Md, 0))), some (.inl to), some (.inl a), some (.inl b), some (.inl k)] [.inl (K k), .inr (.inr (r_Md, 0)), .inl ((400 * to) + k), .inr (.inr (r_Md_element, 0))] (srl σ [(r_Md_made, B), (r_Md_kept, K), (r_Md_element, X)]) _
        refine wp_run 3 (pc' := 149) (ls' := [some (.inr (.inr (r_Md, 0))), some (.inl to), some (.inl a), some (.inl b), some (.inl k)]) (st' := [.inl k, .inr (.inr (r_Md_made, 0)), .inl (K k), .inr (.inr (r_Md, 0)), .inl ((400 * to) + k), .inr (.inr (r_Md_element, 0))]) (σ' := srl σ [(r_Md_made, B), (r_Md_kept, K), (r_Md_element, X)]) rfl ?_
        refine wp_iald0 rfl rfl (by omega) ?_
        show en_wp k_X12_commute 150 [some (.inr (.inr (r_Md, 0))), some (.inl to), some (.inl a), some (.inl b), some (.inl k)] [.inl (B k), .inl (K k), .inr (.inr (r_Md, 0)), .inl ((400 * to) + k), .inr (.inr (r_Md_element, 0))] (srl σ [(r_Md_made, B), (r_Md_kept, K), (r_Md_element, X)]) _
        refine wp_run 1 (pc' := 151) (ls' := [some (.inr (.inr (r_Md, 0))), some (.inl to), some (.inl a), some (.inl b), some (.inl k)]) (st' := [.inl ((K k) - (B k)), .inr (.inr (r_Md, 0)), .inl ((400 * to) + k), .inr (.inr (r_Md_element, 0))]) (σ' := srl σ [(r_Md_made, B), (r_Md_kept, K), (r_Md_element, X)]) rfl ?_
        have hb1 := hB.2 k
        have hk1 := hK.2 k
        refine wp_i2l rfl (by omega) ?_
        show en_wp k_X12_commute 152 [some (.inr (.inr (r_Md, 0))), some (.inl to), some (.inl a), some (.inl b), some (.inl k)] [.inr (.inl ((K k) - (B k))), .inr (.inr (r_Md, 0)), .inl ((400 * to) + k), .inr (.inr (r_Md_element, 0))] (srl σ [(r_Md_made, B), (r_Md_kept, K), (r_Md_element, X)]) _
        refine wp_fnv (v := .inl (((K k) - (B k)) % p)) rfl rfl rfl rfl (ct_X12_rest (srl σ [(r_Md_made, B), (r_Md_kept, K), (r_Md_element, X)]) n D p ((K k) - (B k)) hI (by omega)) ?_
        show en_wp k_X12_commute 155 [some (.inr (.inr (r_Md, 0))), some (.inl to), some (.inl a), some (.inl b), some (.inl k)] [.inl (((K k) - (B k)) % p), .inl ((400 * to) + k), .inr (.inr (r_Md_element, 0))] (srl σ [(r_Md_made, B), (r_Md_kept, K), (r_Md_element, X)]) _
        have q_3 : 0 ≤ ((K k) - (B k)) % p ∧ ((K k) - (B k)) % p < p := sR_lt hO.2.2.2
        refine wp_iast0 rfl rfl (by omega) (wp_wr (l2 := [(r_Md_made, B), (r_Md_kept, K), (r_Md_element, (up X ((400 * to) + k) (((K k) - (B k)) % p)))]) rfl ?_)
        show en_wp k_X12_commute 156 [some (.inr (.inr (r_Md, 0))), some (.inl to), some (.inl a), some (.inl b), some (.inl k)] [] (srl σ [(r_Md_made, B), (r_Md_kept, K), (r_Md_element, (up X ((400 * to) + k) (((K k) - (B k)) % p)))]) _
        refine wp_run 2 (pc' := 114) (ls' := [some (.inr (.inr (r_Md, 0))), some (.inl to), some (.inl a), some (.inl b), some (.inl (k + 1))]) (st' := []) (σ' := srl σ [(r_Md_made, B), (r_Md_kept, K), (r_Md_element, (up X ((400 * to) + k) (((K k) - (B k)) % p)))]) rfl ?_
        exact ih_114 (k + 1) B K (up X ((400 * to) + k) (((K k) - (B k)) % p)) hv hTL (by omega) hB hK (by rw [hX]; exact seg_up hk.1 (by rw [hB.1 k hk.1 (by omega), hK.1 k hk.1 (by omega)]; exact (Int.sub_emod _ _ _).symm)) (by omega)
  have L_60 : ∀ (N : Nat) (k : Int) (B : Int → Int) (K : Int → Int), (((0 ≤ to ∧ to ≤ 5) ∧ (0 ≤ a ∧ a ≤ 5) ∧ (0 ≤ b ∧ b ≤ 5))) → (¬ (0 ≤ sG (fun k => σ r_Md_element (400 * a + k)) (sS n D (D + 1)).toNat ∧ 0 ≤ sG (fun k => σ r_Md_element (400 * b + k)) (sS n D (D + 1)).toNat ∧ D < sL n D (sG (fun k => σ r_Md_element (400 * a + k)) (sS n D (D + 1)).toNat) + sL n D (sG (fun k => σ r_Md_element (400 * b + k)) (sS n D (D + 1)).toNat))) → (0 ≤ k ∧ k ≤ sS n D (D + 1)) → ((∀ x, 0 ≤ x → x < sS n D (D + 1) → B x = prd n D (fun x => σ r_Md_element (400 * a + x)) (fun x => σ r_Md_element (400 * b + x)) x % p) ∧ R97 B) → (K = seg (σ r_Md_kept) 0 k (fun x => prd n D (fun x => σ r_Md_element (400 * a + x)) (fun x => σ r_Md_element (400 * b + x)) x % p)) → (sS n D (D + 1) - k).toNat < N → en_wp k_X12_commute 60 [some (.inr (.inr (r_Md, 0))), some (.inl to), some (.inl a), some (.inl b), some (.inl k)] [] (srl σ [(r_Md_made, B), (r_Md_kept, K)]) (fun r σ' => ∃ (f_Md_made : Int → Int), ∃ (f_Md_kept : Int → Int), ∃ (f_Md_element : Int → Int), ∃ (rr : Int), r = some (.inl rr) ∧ σ' = srl σ [(r_Md_made, f_Md_made), (r_Md_kept, f_Md_kept), (r_Md_element, f_Md_element)] ∧ ((¬ ((0 ≤ to ∧ to ≤ 5) ∧ (0 ≤ a ∧ a ≤ 5) ∧ (0 ≤ b ∧ b ≤ 5)) ∧ rr = -1 ∧ f_Md_element = (σ r_Md_element)) ∨ (((0 ≤ to ∧ to ≤ 5) ∧ (0 ≤ a ∧ a ≤ 5) ∧ (0 ≤ b ∧ b ≤ 5)) ∧ (0 ≤ sG (fun k => (σ r_Md_element) (400 * a + k)) (sS n D (D + 1)).toNat ∧ 0 ≤ sG (fun k => (σ r_Md_element) (400 * b + k)) (sS n D (D + 1)).toNat ∧ D < sL n D (sG (fun k => (σ r_Md_element) (400 * a + k)) (sS n D (D + 1)).toNat) + sL n D (sG (fun k => (σ r_Md_element) (400 * b + k)) (sS n D (D + 1)).toNat)) ∧ rr = -2 ∧ f_Md_element = (σ r_Md_element)) ∨ (((0 ≤ to ∧ to ≤ 5) ∧ (0 ≤ a ∧ a ≤ 5) ∧ (0 ≤ b ∧ b ≤ 5)) ∧ ¬ (0 ≤ sG (fun k => (σ r_Md_element) (400 * a + k)) (sS n D (D + 1)).toNat ∧ 0 ≤ sG (fun k => (σ r_Md_element) (400 * b + k)) (sS n D (D + 1)).toNat ∧ D < sL n D (sG (fun k => (σ r_Md_element) (400 * a + k)) (sS n D (D + 1)).toNat) + sL n D (sG (fun k => (σ r_Md_element) (400 * b + k)) (sS n D (D + 1)).toNat)) ∧ rr = 0 ∧ f_Md_element = seg ((σ r_Md_element)) (400 * to) (sS n D (D + 1)) (fun x => (prd n D (fun x => (σ r_Md_element) (400 * a + x)) (fun x => (σ r_Md_element) (400 * b + x)) x - prd n D (fun x => (σ r_Md_element) (400 * b + x)) (fun x => (σ r_Md_element) (400 * a + x)) x) % p))) ∧ (R97 f_Md_made) ∧ (R97 f_Md_kept)) := by
    intro N
    induction N with
    | zero => intro k B K; intros; omega
    | succ N ih_60 =>
      intro k B K hv hTL hk hB hK hN_60
      refine wp_run 2 (pc' := 63) (ls' := [some (.inr (.inr (r_Md, 0))), some (.inl to), some (.inl a), some (.inl b), some (.inl k)]) (st' := [.inr (.inr (r_Md, 0)), .inl k]) (σ' := srl σ [(r_Md_made, B), (r_Md_kept, K)]) rfl ?_
      refine wp_fnv (v := .inl (sS n D (D + 1))) rfl rfl rfl rfl (ct_X12_all (srl σ [(r_Md_made, B), (r_Md_kept, K)]) n D p hI) ?_
      show en_wp k_X12_commute 66 [some (.inr (.inr (r_Md, 0))), some (.inl to), some (.inl a), some (.inl b), some (.inl k)] [.inl (sS n D (D + 1)), .inl k] (srl σ [(r_Md_made, B), (r_Md_kept, K)]) _
      have q_4 : 0 ≤ sS n D (D + 1) ∧ sS n D (D + 1) ≤ 364 := sS_b hO
      refine wp_ic_ge rfl (by omega) (by omega) (fun h_5 => ?_) (fun h_5 => ?_)
      · show en_wp k_X12_commute 89 [some (.inr (.inr (r_Md, 0))), some (.inl to), some (.inl a), some (.inl b), some (.inl k)] [] (srl σ [(r_Md_made, B), (r_Md_kept, K)]) _
        refine wp_run 11 (pc' := 108) (ls' := [some (.inr (.inr (r_Md, 0))), some (.inl to), some (.inl a), some (.inl b), some (.inl k)]) (st' := [.inl (400 * a), .inr (.inr (r_Md_element, 0)), .inl (400 * b), .inr (.inr (r_Md_element, 0)), .inr (.inr (r_Md, 0))]) (σ' := srl σ [(r_Md_made, B), (r_Md_kept, K)]) rfl ?_
        have hkA : k = sS n D (D + 1) := by omega
        rw [hkA] at hK
        have hK2 : (∀ x, 0 ≤ x → x < sS n D (D + 1) → K x = prd n D (fun x => σ r_Md_element (400 * a + x)) (fun x => σ r_Md_element (400 * b + x)) x % p) ∧ R97 K := ⟨fun x h8 h9 => by rw [hK, seg_in0 ⟨h8, h9⟩], by rw [hK]; exact R97_seg hkt (fun x _ _ => by have := hpb x; omega)⟩
        refine wp_callv rfl rfl rfl rfl (ct_X12_multiplies_Md_element_Md_element (srl σ [(r_Md_made, B), (r_Md_kept, K)]) n D p (400 * b) (400 * a) hI (by omega) hE hE hB.2) ?_
        rintro _ _ ⟨f_6, rfl, rfl, p_7, p_8, p_9⟩
        have p_7 : ∀ x, 0 ≤ x → x < sS n D (D + 1) → f_6 x = prd n D (fun x => (σ r_Md_element) ((400 * b) + x)) (fun x => (σ r_Md_element) ((400 * a) + x)) x % p := p_7
        have p_8 : ∀ x, sS n D (D + 1) ≤ x → x < 400 → f_6 x = 0 := p_8
        have p_9 : R97 f_6 := p_9
        refine wp_bk (l2 := [(r_Md_made, f_6), (r_Md_kept, K)]) rfl rfl ?_
        show en_wp k_X12_commute 111 [some (.inr (.inr (r_Md, 0))), some (.inl to), some (.inl a), some (.inl b), some (.inl k)] [] (srl σ [(r_Md_made, f_6), (r_Md_kept, K)]) _
        have kp := (⟨p_7, p_8, p_9⟩ : _ ∧ _ ∧ _)
        refine wp_run 2 (pc' := 114) (ls' := [some (.inr (.inr (r_Md, 0))), some (.inl to), some (.inl a), some (.inl b), some (.inl 0)]) (st' := []) (σ' := srl σ [(r_Md_made, f_6), (r_Md_kept, K)]) rfl ?_
        refine wp_mem (srl_eq (l' := [(r_Md_made, f_6), (r_Md_kept, K), (r_Md_element, (σ r_Md_element))]) (And.intro rfl (And.intro rfl trivial)) (And.intro rfl (And.intro rfl (And.intro rfl trivial)))) ?_
        exact L_114 _ 0 f_6 K (σ r_Md_element) hv hTL (by omega) ⟨kp.1, kp.2.2⟩ hK2 (seg_0 _ _ _).symm (Nat.lt_succ_self _)
      · show en_wp k_X12_commute 69 [some (.inr (.inr (r_Md, 0))), some (.inl to), some (.inl a), some (.inl b), some (.inl k)] [] (srl σ [(r_Md_made, B), (r_Md_kept, K)]) _
        refine wp_run 6 (pc' := 81) (ls' := [some (.inr (.inr (r_Md, 0))), some (.inl to), some (.inl a), some (.inl b), some (.inl k)]) (st' := [.inl k, .inr (.inr (r_Md_made, 0)), .inl k, .inr (.inr (r_Md_kept, 0))]) (σ' := srl σ [(r_Md_made, B), (r_Md_kept, K)]) rfl ?_
        refine wp_iald0 rfl rfl (by omega) ?_
        show en_wp k_X12_commute 82 [some (.inr (.inr (r_Md, 0))), some (.inl to), some (.inl a), some (.inl b), some (.inl k)] [.inl (B k), .inl k, .inr (.inr (r_Md_kept, 0))] (srl σ [(r_Md_made, B), (r_Md_kept, K)]) _
        refine wp_iast0 rfl rfl (by omega) (wp_wr (l2 := [(r_Md_made, B), (r_Md_kept, (up K k (B k)))]) rfl ?_)
        show en_wp k_X12_commute 83 [some (.inr (.inr (r_Md, 0))), some (.inl to), some (.inl a), some (.inl b), some (.inl k)] [] (srl σ [(r_Md_made, B), (r_Md_kept, (up K k (B k)))]) _
        refine wp_run 2 (pc' := 60) (ls' := [some (.inr (.inr (r_Md, 0))), some (.inl to), some (.inl a), some (.inl b), some (.inl (k + 1))]) (st' := []) (σ' := srl σ [(r_Md_made, B), (r_Md_kept, (up K k (B k)))]) rfl ?_
        exact ih_60 (k + 1) B (up K k (B k)) hv hTL (by omega) hB (by rw [hK]; exact seg_up0 hk.1 (hB.1 k hk.1 (by omega))) (by omega)
  refine wp_run 1 (pc' := 1) (ls' := [some (.inr (.inr (r_Md, 0))), some (.inl to), some (.inl a), some (.inl b), none]) (st' := [.inl to]) (σ' := srl σ []) rfl ?_
  refine wp_fns (v := .inl (bI (0 ≤ to ∧ to ≤ 5))) rfl rfl rfl rfl rfl (ct_X12_isElement σ to (by omega)) ?_
  show en_wp k_X12_commute 4 [some (.inr (.inr (r_Md, 0))), some (.inl to), some (.inl a), some (.inl b), none] [.inl (bI (0 ≤ to ∧ to ≤ 5))] (srl σ []) _
  refine wp_if_eqb rfl (fun h_10 => ?_) (fun h_10 => ?_)
  · show en_wp k_X12_commute 21 [some (.inr (.inr (r_Md, 0))), some (.inl to), some (.inl a), some (.inl b), none] [] (srl σ []) _
    refine wp_run 1 (pc' := 22) (ls' := [some (.inr (.inr (r_Md, 0))), some (.inl to), some (.inl a), some (.inl b), none]) (st' := [.inl (-1)]) (σ' := srl σ []) rfl ?_
    exact wp_iret rfl ⟨(σ r_Md_made), (σ r_Md_kept), (σ r_Md_element), (-1), rfl, srl_eq (l' := [(r_Md_made, σ r_Md_made), (r_Md_kept, σ r_Md_kept), (r_Md_element, σ r_Md_element)]) trivial (And.intro rfl (And.intro rfl (And.intro rfl trivial))), ⟨.inl ⟨by omega, rfl, rfl⟩, hma, hkt⟩⟩
  · show en_wp k_X12_commute 7 [some (.inr (.inr (r_Md, 0))), some (.inl to), some (.inl a), some (.inl b), none] [] (srl σ []) _
    refine wp_run 1 (pc' := 8) (ls' := [some (.inr (.inr (r_Md, 0))), some (.inl to), some (.inl a), some (.inl b), none]) (st' := [.inl a]) (σ' := srl σ []) rfl ?_
    refine wp_fns (v := .inl (bI (0 ≤ a ∧ a ≤ 5))) rfl rfl rfl rfl rfl (ct_X12_isElement σ a (by omega)) ?_
    show en_wp k_X12_commute 11 [some (.inr (.inr (r_Md, 0))), some (.inl to), some (.inl a), some (.inl b), none] [.inl (bI (0 ≤ a ∧ a ≤ 5))] (srl σ []) _
    refine wp_if_eqb rfl (fun h_11 => ?_) (fun h_11 => ?_)
    · show en_wp k_X12_commute 21 [some (.inr (.inr (r_Md, 0))), some (.inl to), some (.inl a), some (.inl b), none] [] (srl σ []) _
      refine wp_run 1 (pc' := 22) (ls' := [some (.inr (.inr (r_Md, 0))), some (.inl to), some (.inl a), some (.inl b), none]) (st' := [.inl (-1)]) (σ' := srl σ []) rfl ?_
      exact wp_iret rfl ⟨(σ r_Md_made), (σ r_Md_kept), (σ r_Md_element), (-1), rfl, srl_eq (l' := [(r_Md_made, σ r_Md_made), (r_Md_kept, σ r_Md_kept), (r_Md_element, σ r_Md_element)]) trivial (And.intro rfl (And.intro rfl (And.intro rfl trivial))), ⟨.inl ⟨by omega, rfl, rfl⟩, hma, hkt⟩⟩
    · show en_wp k_X12_commute 14 [some (.inr (.inr (r_Md, 0))), some (.inl to), some (.inl a), some (.inl b), none] [] (srl σ []) _
      refine wp_run 1 (pc' := 15) (ls' := [some (.inr (.inr (r_Md, 0))), some (.inl to), some (.inl a), some (.inl b), none]) (st' := [.inl b]) (σ' := srl σ []) rfl ?_
      refine wp_fns (v := .inl (bI (0 ≤ b ∧ b ≤ 5))) rfl rfl rfl rfl rfl (ct_X12_isElement σ b (by omega)) ?_
      show en_wp k_X12_commute 18 [some (.inr (.inr (r_Md, 0))), some (.inl to), some (.inl a), some (.inl b), none] [.inl (bI (0 ≤ b ∧ b ≤ 5))] (srl σ []) _
      refine wp_if_neb rfl (fun h_12 => ?_) (fun h_12 => ?_)
      · show en_wp k_X12_commute 23 [some (.inr (.inr (r_Md, 0))), some (.inl to), some (.inl a), some (.inl b), none] [] (srl σ []) _
        refine wp_run 3 (pc' := 26) (ls' := [some (.inr (.inr (r_Md, 0))), some (.inl to), some (.inl a), some (.inl b), none]) (st' := [.inl b, .inl a, .inr (.inr (r_Md, 0))]) (σ' := srl σ []) rfl ?_
        refine wp_fnv (v := .inl (bI (0 ≤ sG (fun k => (σ r_Md_element) (400 * a + k)) (sS n D (D + 1)).toNat ∧ 0 ≤ sG (fun k => (σ r_Md_element) (400 * b + k)) (sS n D (D + 1)).toNat ∧ D < sL n D (sG (fun k => (σ r_Md_element) (400 * a + k)) (sS n D (D + 1)).toNat) + sL n D (sG (fun k => (σ r_Md_element) (400 * b + k)) (sS n D (D + 1)).toNat)))) rfl rfl rfl rfl (ct_X12_isTooLong σ n D p a b hI hE (by omega) (by omega)) ?_
        show en_wp k_X12_commute 29 [some (.inr (.inr (r_Md, 0))), some (.inl to), some (.inl a), some (.inl b), none] [.inl (bI (0 ≤ sG (fun k => (σ r_Md_element) (400 * a + k)) (sS n D (D + 1)).toNat ∧ 0 ≤ sG (fun k => (σ r_Md_element) (400 * b + k)) (sS n D (D + 1)).toNat ∧ D < sL n D (sG (fun k => (σ r_Md_element) (400 * a + k)) (sS n D (D + 1)).toNat) + sL n D (sG (fun k => (σ r_Md_element) (400 * b + k)) (sS n D (D + 1)).toNat)))] (srl σ []) _
        refine wp_if_eqb rfl (fun h_13 => ?_) (fun h_13 => ?_)
        · have hTL := h_13
          show en_wp k_X12_commute 35 [some (.inr (.inr (r_Md, 0))), some (.inl to), some (.inl a), some (.inl b), none] [] (srl σ []) _
          refine wp_run 11 (pc' := 54) (ls' := [some (.inr (.inr (r_Md, 0))), some (.inl to), some (.inl a), some (.inl b), none]) (st' := [.inl (400 * b), .inr (.inr (r_Md_element, 0)), .inl (400 * a), .inr (.inr (r_Md_element, 0)), .inr (.inr (r_Md, 0))]) (σ' := srl σ []) rfl ?_
          refine wp_callv rfl rfl rfl rfl (ct_X12_multiplies_Md_element_Md_element σ n D p (400 * a) (400 * b) hI (by omega) hE hE hma) ?_
          rintro _ _ ⟨f_14, rfl, rfl, p_15, p_16, p_17⟩
          have p_15 : ∀ x, 0 ≤ x → x < sS n D (D + 1) → f_14 x = prd n D (fun x => (σ r_Md_element) ((400 * a) + x)) (fun x => (σ r_Md_element) ((400 * b) + x)) x % p := p_15
          have p_16 : ∀ x, sS n D (D + 1) ≤ x → x < 400 → f_14 x = 0 := p_16
          have p_17 : R97 f_14 := p_17
          show en_wp k_X12_commute 57 [some (.inr (.inr (r_Md, 0))), some (.inl to), some (.inl a), some (.inl b), none] [] (srl σ [(r_Md_made, f_14)]) _
          have kp := (⟨p_15, p_16, p_17⟩ : _ ∧ _ ∧ _)
          refine wp_run 2 (pc' := 60) (ls' := [some (.inr (.inr (r_Md, 0))), some (.inl to), some (.inl a), some (.inl b), some (.inl 0)]) (st' := []) (σ' := srl σ [(r_Md_made, f_14)]) rfl ?_
          refine wp_mem (srl_eq (l' := [(r_Md_made, f_14), (r_Md_kept, (σ r_Md_kept))]) (And.intro rfl trivial) (And.intro rfl (And.intro rfl trivial))) ?_
          exact L_60 _ 0 f_14 (σ r_Md_kept) (by omega) hTL (by omega) ⟨kp.1, kp.2.2⟩ (seg_0 _ _ _).symm (Nat.lt_succ_self _)
        · have hTL1 := h_13
          show en_wp k_X12_commute 32 [some (.inr (.inr (r_Md, 0))), some (.inl to), some (.inl a), some (.inl b), none] [] (srl σ []) _
          refine wp_run 1 (pc' := 34) (ls' := [some (.inr (.inr (r_Md, 0))), some (.inl to), some (.inl a), some (.inl b), none]) (st' := [.inl (-2)]) (σ' := srl σ []) rfl ?_
          exact wp_iret rfl ⟨(σ r_Md_made), (σ r_Md_kept), (σ r_Md_element), (-2), rfl, srl_eq (l' := [(r_Md_made, σ r_Md_made), (r_Md_kept, σ r_Md_kept), (r_Md_element, σ r_Md_element)]) trivial (And.intro rfl (And.intro rfl (And.intro rfl trivial))), ⟨.inr (.inl ⟨by omega, hTL1, rfl, rfl⟩), hma, hkt⟩⟩
      · show en_wp k_X12_commute 21 [some (.inr (.inr (r_Md, 0))), some (.inl to), some (.inl a), some (.inl b), none] [] (srl σ []) _
        refine wp_run 1 (pc' := 22) (ls' := [some (.inr (.inr (r_Md, 0))), some (.inl to), some (.inl a), some (.inl b), none]) (st' := [.inl (-1)]) (σ' := srl σ []) rfl ?_
        exact wp_iret rfl ⟨(σ r_Md_made), (σ r_Md_kept), (σ r_Md_element), (-1), rfl, srl_eq (l' := [(r_Md_made, σ r_Md_made), (r_Md_kept, σ r_Md_kept), (r_Md_element, σ r_Md_element)]) trivial (And.intro rfl (And.intro rfl (And.intro rfl trivial))), ⟨.inl ⟨by omega, rfl, rfl⟩, hma, hkt⟩⟩
set_option maxRecDepth 8000 in
theorem ct_X12_power_ (σ : en_m) (n : Int) (D : Int) (p : Int) (LW : Int → (Int → Int) → Prop) (e : Int) (hI : mI σ n D p) (h1 : i32 e) (hE : R97 ((σ r_Md_element))) (heo : ∀ e x, (0 ≤ e ∧ e ≤ 5) → (0 ≤ x ∧ x < sS n D (D + 1)) → (σ r_Md_element) (400 * e + x) < p) (hfi : R97 ((σ r_Md_first))) (hth : R97 ((σ r_Md_then))) (hma : R97 ((σ r_Md_made))) (hrow : R97 ((σ r_Md_row))) (hna : mNall ((σ r_Md_rowStart)) ((σ r_Md_rows)) ((σ r_Md_leads)) ((σ r_Md_sizes)) n D p LW) : en_ct z_X12_power_ [.inr (.inr (r_Md, 0)), .inl e] σ (fun r σ' => ∃ (f_Md_row : Int → Int), ∃ (f_Md_first : Int → Int), ∃ (f_Md_then : Int → Int), ∃ (f_Md_made : Int → Int), ∃ (rr : Int), r = some (.inl rr) ∧ σ' = srl σ [(r_Md_row, f_Md_row), (r_Md_first, f_Md_first), (r_Md_then, f_Md_then), (r_Md_made, f_Md_made)] ∧ (if (0 ≤ e ∧ e ≤ 5) then ∃ F, nfR n D p LW (fun x => (σ r_Md_element) (400 * e + x)) F ∧ pwr n D p LW F 7 1 F rr else rr = -1) ∧ (R97 f_Md_row) ∧ (R97 f_Md_first) ∧ (R97 f_Md_then) ∧ (R97 f_Md_made)) := by
  show en_wp k_X12_power_ 0 [some (.inr (.inr (r_Md, 0))), some (.inl e), none, none, none] [] (srl σ []) (fun r σ' => ∃ (f_Md_row : Int → Int), ∃ (f_Md_first : Int → Int), ∃ (f_Md_then : Int → Int), ∃ (f_Md_made : Int → Int), ∃ (rr : Int), r = some (.inl rr) ∧ σ' = srl σ [(r_Md_row, f_Md_row), (r_Md_first, f_Md_first), (r_Md_then, f_Md_then), (r_Md_made, f_Md_made)] ∧ (if (0 ≤ e ∧ e ≤ 5) then ∃ F, nfR n D p LW (fun x => (σ r_Md_element) (400 * e + x)) F ∧ pwr n D p LW F 7 1 F rr else rr = -1) ∧ (R97 f_Md_row) ∧ (R97 f_Md_first) ∧ (R97 f_Md_then) ∧ (R97 f_Md_made))
  have hI2 := hI
  obtain ⟨hO, hL, hn, hD, hp, hpw, hst⟩ := hI2
  obtain ⟨⟨hO1, hO2⟩, ⟨hO3, hO4⟩, hO5, hO6, hO7, hO8⟩ := id hO
  have hAb := sS_b (k := D + 1) hO
  have heo2 := fun x h => heo e x h
  have L_82 : ∀ (N : Nat) (k : Int) (A : Int → Int) (FX : Int → Int) (B : Int → Int) (C : Int → Int), ((0 ≤ e ∧ e ≤ 5)) → (nfR n D p LW (fun x => σ r_Md_element (400 * e + x)) FX) → (R97 FX ∧ ∀ x, 0 ≤ x → x < sS n D (D + 1) → FX x < p) → (R97 A) → (R97 B ∧ ∀ x, 0 ≤ x → x < sS n D (D + 1) → B x < p) → (R97 C) → (1 ≤ k ∧ k ≤ 7) → (∀ r, pwr n D p LW FX (8 - k).toNat k B r → pwr n D p LW FX 7 1 FX r) → (8 - k).toNat < N → en_wp k_X12_power_ 82 [some (.inr (.inr (r_Md, 0))), some (.inl e), some (.inl k), none, none] [] (srl σ [(r_Md_row, A), (r_Md_first, FX), (r_Md_then, B), (r_Md_made, C)]) (fun r σ' => ∃ (f_Md_row : Int → Int), ∃ (f_Md_first : Int → Int), ∃ (f_Md_then : Int → Int), ∃ (f_Md_made : Int → Int), ∃ (rr : Int), r = some (.inl rr) ∧ σ' = srl σ [(r_Md_row, f_Md_row), (r_Md_first, f_Md_first), (r_Md_then, f_Md_then), (r_Md_made, f_Md_made)] ∧ (if (0 ≤ e ∧ e ≤ 5) then ∃ F, nfR n D p LW (fun x => (σ r_Md_element) (400 * e + x)) F ∧ pwr n D p LW F 7 1 F rr else rr = -1) ∧ (R97 f_Md_row) ∧ (R97 f_Md_first) ∧ (R97 f_Md_then) ∧ (R97 f_Md_made)) := by
    intro N
    induction N with
    | zero => intro k A FX B C; intros; omega
    | succ N ih_82 =>
      intro k A FX B C hev hFn hF3 hA3 hB3 hC3 hk hst_ hN_82
      have hm8 : (8 - k).toNat = (7 - k).toNat + 1 := by omega
      rw [hm8] at hst_
      have L_151 : ∀ (N : Nat) (j : Int) (B2 : Int → Int) (C2 : Int → Int), (k ≤ 6) → (¬ zrR n D B ∧ tpR n D B + tpR n D FX ≤ D) → (0 ≤ j ∧ j ≤ sS n D (D + 1)) → ((∀ x, 0 ≤ x → x < sS n D (D + 1) → C2 x = prd n D B FX x % p) ∧ R97 C2) → (B2 = seg B 0 j (fun x => prd n D B FX x % p)) → (sS n D (D + 1) - j).toNat < N → en_wp k_X12_power_ 151 [some (.inr (.inr (r_Md, 0))), some (.inl e), some (.inl k), none, some (.inl j)] [] (srl σ [(r_Md_row, A), (r_Md_first, FX), (r_Md_then, B2), (r_Md_made, C2)]) (fun r σ' => ∃ (f_Md_row : Int → Int), ∃ (f_Md_first : Int → Int), ∃ (f_Md_then : Int → Int), ∃ (f_Md_made : Int → Int), ∃ (rr : Int), r = some (.inl rr) ∧ σ' = srl σ [(r_Md_row, f_Md_row), (r_Md_first, f_Md_first), (r_Md_then, f_Md_then), (r_Md_made, f_Md_made)] ∧ (if (0 ≤ e ∧ e ≤ 5) then ∃ F, nfR n D p LW (fun x => (σ r_Md_element) (400 * e + x)) F ∧ pwr n D p LW F 7 1 F rr else rr = -1) ∧ (R97 f_Md_row) ∧ (R97 f_Md_first) ∧ (R97 f_Md_then) ∧ (R97 f_Md_made)) := by
        intro N
        induction N with
        | zero => intro j B2 C2; intros; omega
        | succ N ih_151 =>
          intro j B2 C2 hk6 hnz hj hC2 hB2 hN_151
          refine wp_run 2 (pc' := 154) (ls' := [some (.inr (.inr (r_Md, 0))), some (.inl e), some (.inl k), none, some (.inl j)]) (st' := [.inr (.inr (r_Md, 0)), .inl j]) (σ' := srl σ [(r_Md_row, A), (r_Md_first, FX), (r_Md_then, B2), (r_Md_made, C2)]) rfl ?_
          refine wp_fnv (v := .inl (sS n D (D + 1))) rfl rfl rfl rfl (ct_X12_all (srl σ [(r_Md_row, A), (r_Md_first, FX), (r_Md_then, B2), (r_Md_made, C2)]) n D p hI) ?_
          show en_wp k_X12_power_ 157 [some (.inr (.inr (r_Md, 0))), some (.inl e), some (.inl k), none, some (.inl j)] [.inl (sS n D (D + 1)), .inl j] (srl σ [(r_Md_row, A), (r_Md_first, FX), (r_Md_then, B2), (r_Md_made, C2)]) _
          have q_1 : 0 ≤ sS n D (D + 1) ∧ sS n D (D + 1) ≤ 364 := sS_b hO
          refine wp_ic_ge rfl (by omega) (by omega) (fun h_2 => ?_) (fun h_2 => ?_)
          · show en_wp k_X12_power_ 180 [some (.inr (.inr (r_Md, 0))), some (.inl e), some (.inl k), none, some (.inl j)] [] (srl σ [(r_Md_row, A), (r_Md_first, FX), (r_Md_then, B2), (r_Md_made, C2)]) _
            refine wp_run 4 (pc' := 186) (ls' := [some (.inr (.inr (r_Md, 0))), some (.inl e), some (.inl k), none, some (.inl j)]) (st' := [.inl 0, .inr (.inr (r_Md_then, 0)), .inr (.inr (r_Md, 0))]) (σ' := srl σ [(r_Md_row, A), (r_Md_first, FX), (r_Md_then, B2), (r_Md_made, C2)]) rfl ?_
            have hjA : j = sS n D (D + 1) := by omega
            rw [hjA] at hB2
            have hpb := fun x => @sR_lt p (prd n D B FX x) hO.2.2.2
            have hB97 : R97 B2 := by rw [hB2]; exact R97_seg hB3.1 (fun x _ _ => by have := hpb x; omega)
            have hBp : ∀ x, 0 ≤ x → x < sS n D (D + 1) → B2 (0 + x) < p := fun x h8 h9 => by rw [Int.zero_add, hB2, seg_in0 ⟨h8, h9⟩]; exact (hpb x).2
            refine wp_callv rfl rfl rfl rfl (ct_X12_plains_Md_then (srl σ [(r_Md_row, A), (r_Md_first, FX), (r_Md_then, B2), (r_Md_made, C2)]) n D p LW 0 hI (by omega) hB97 hBp hA3 hna) ?_
            rintro _ _ ⟨f_3, f_4, rfl, rfl, p_5, p_6, p_7, p_8, p_9⟩
            have p_5 : nfR n D p LW (fun x => B2 (0 + x)) (fun x => f_4 (0 + x)) := p_5
            have p_6 : ∀ x, (x < 0 ∨ 0 + sS n D (D + 1) ≤ x) → f_4 x = B2 x := p_6
            have p_7 : R97 f_3 := p_7
            have p_8 : R97 f_4 := p_8
            have p_9 : ∀ x, 0 ≤ x → x < sS n D (D + 1) → f_4 (0 + x) < p := p_9
            refine wp_bk (l2 := [(r_Md_row, f_3), (r_Md_first, FX), (r_Md_then, f_4), (r_Md_made, C2)]) rfl rfl ?_
            show en_wp k_X12_power_ 189 [some (.inr (.inr (r_Md, 0))), some (.inl e), some (.inl k), none, some (.inl j)] [] (srl σ [(r_Md_row, f_3), (r_Md_first, FX), (r_Md_then, f_4), (r_Md_made, C2)]) _
            have kp := (⟨p_5, p_6, p_7, p_8, p_9⟩ : _ ∧ _ ∧ _ ∧ _ ∧ _)
            have kn := al_nf hO kp.1 hB2
            refine wp_run 2 (pc' := 82) (ls' := [some (.inr (.inr (r_Md, 0))), some (.inl e), some (.inl (k + 1)), none, some (.inl j)]) (st' := []) (σ' := srl σ [(r_Md_row, f_3), (r_Md_first, FX), (r_Md_then, f_4), (r_Md_made, C2)]) rfl ?_
            refine wp_sub (l := [some (.inr (.inr (r_Md, 0))), some (.inl e), some (.inl (k + 1)), none, none]) (And.intro rfl (And.intro rfl (And.intro rfl trivial))) ?_
            exact ih_82 (k + 1) f_3 FX f_4 C2 hev hFn hF3 kp.2.2.1 ⟨kp.2.2.2.1, fun x h8 h9 => by have := kp.2.2.2.2 x h8 h9; rwa [Int.zero_add] at this⟩ hC2.2 (by omega) (by rcases lp_next (by omega) hnz.1 hnz.2 hst_ kn with h | h; exact h.2; exfalso; omega) (by omega)
          · show en_wp k_X12_power_ 160 [some (.inr (.inr (r_Md, 0))), some (.inl e), some (.inl k), none, some (.inl j)] [] (srl σ [(r_Md_row, A), (r_Md_first, FX), (r_Md_then, B2), (r_Md_made, C2)]) _
            refine wp_run 6 (pc' := 172) (ls' := [some (.inr (.inr (r_Md, 0))), some (.inl e), some (.inl k), none, some (.inl j)]) (st' := [.inl j, .inr (.inr (r_Md_made, 0)), .inl j, .inr (.inr (r_Md_then, 0))]) (σ' := srl σ [(r_Md_row, A), (r_Md_first, FX), (r_Md_then, B2), (r_Md_made, C2)]) rfl ?_
            refine wp_iald0 rfl rfl (by omega) ?_
            show en_wp k_X12_power_ 173 [some (.inr (.inr (r_Md, 0))), some (.inl e), some (.inl k), none, some (.inl j)] [.inl (C2 j), .inl j, .inr (.inr (r_Md_then, 0))] (srl σ [(r_Md_row, A), (r_Md_first, FX), (r_Md_then, B2), (r_Md_made, C2)]) _
            refine wp_iast0 rfl rfl (by omega) (wp_wr (l2 := [(r_Md_row, A), (r_Md_first, FX), (r_Md_then, (up B2 j (C2 j))), (r_Md_made, C2)]) rfl ?_)
            show en_wp k_X12_power_ 174 [some (.inr (.inr (r_Md, 0))), some (.inl e), some (.inl k), none, some (.inl j)] [] (srl σ [(r_Md_row, A), (r_Md_first, FX), (r_Md_then, (up B2 j (C2 j))), (r_Md_made, C2)]) _
            refine wp_run 2 (pc' := 151) (ls' := [some (.inr (.inr (r_Md, 0))), some (.inl e), some (.inl k), none, some (.inl (j + 1))]) (st' := []) (σ' := srl σ [(r_Md_row, A), (r_Md_first, FX), (r_Md_then, (up B2 j (C2 j))), (r_Md_made, C2)]) rfl ?_
            exact ih_151 (j + 1) (up B2 j (C2 j)) C2 (by omega) hnz (by omega) hC2 (by rw [hB2]; exact seg_up0 hj.1 (hC2.1 j hj.1 (by omega))) (by omega)
      refine wp_run 2 (pc' := 85) (ls' := [some (.inr (.inr (r_Md, 0))), some (.inl e), some (.inl k), none, none]) (st' := [.inl 8, .inl k]) (σ' := srl σ [(r_Md_row, A), (r_Md_first, FX), (r_Md_then, B), (r_Md_made, C)]) rfl ?_
      refine wp_ic_ge rfl (by omega) (by omega) (fun h_10 => ?_) (fun h_10 => ?_)
      · show en_wp k_X12_power_ 195 [some (.inr (.inr (r_Md, 0))), some (.inl e), some (.inl k), none, none] [] (srl σ [(r_Md_row, A), (r_Md_first, FX), (r_Md_then, B), (r_Md_made, C)]) _
        refine wp_run 1 (pc' := 197) (ls' := [some (.inr (.inr (r_Md, 0))), some (.inl e), some (.inl k), none, none]) (st' := [.inl (-2)]) (σ' := srl σ [(r_Md_row, A), (r_Md_first, FX), (r_Md_then, B), (r_Md_made, C)]) rfl ?_
        exact wp_iret rfl ⟨A, FX, B, C, (-2), rfl, srl_eq (l' := [(r_Md_row, A), (r_Md_first, FX), (r_Md_then, B), (r_Md_made, C)]) (And.intro rfl (And.intro rfl (And.intro rfl (And.intro rfl trivial)))) (And.intro rfl (And.intro rfl (And.intro rfl (And.intro rfl trivial)))), (by exfalso; omega)⟩
      · show en_wp k_X12_power_ 88 [some (.inr (.inr (r_Md, 0))), some (.inl e), some (.inl k), none, none] [] (srl σ [(r_Md_row, A), (r_Md_first, FX), (r_Md_then, B), (r_Md_made, C)]) _
        refine wp_run 3 (pc' := 93) (ls' := [some (.inr (.inr (r_Md, 0))), some (.inl e), some (.inl k), none, none]) (st' := [.inr (.inr (r_Md_then, 0)), .inr (.inr (r_Md, 0))]) (σ' := srl σ [(r_Md_row, A), (r_Md_first, FX), (r_Md_then, B), (r_Md_made, C)]) rfl ?_
        refine wp_fnv (v := .inl (if sG (fun k => B k) (sS n D (D + 1)).toNat < 0 then -1 else sL n D (sG (fun k => B k) (sS n D (D + 1)).toNat))) rfl rfl rfl rfl (ct_X12_longest_Md_then (srl σ [(r_Md_row, A), (r_Md_first, FX), (r_Md_then, B), (r_Md_made, C)]) n D p hI hB3.1) ?_
        show en_wp k_X12_power_ 96 [some (.inr (.inr (r_Md, 0))), some (.inl e), some (.inl k), none, none] [.inl (if sG (fun k => B k) (sS n D (D + 1)).toNat < 0 then -1 else sL n D (sG (fun k => B k) (sS n D (D + 1)).toNat))] (srl σ [(r_Md_row, A), (r_Md_first, FX), (r_Md_then, B), (r_Md_made, C)]) _
        have q_11 : -1 ≤ (if sG (fun k => B k) (sS n D (D + 1)).toNat < 0 then -1 else sL n D (sG (fun k => B k) (sS n D (D + 1)).toNat)) ∧ (if sG (fun k => B k) (sS n D (D + 1)).toNat < 0 then -1 else sL n D (sG (fun k => B k) (sS n D (D + 1)).toNat)) ≤ 7 := lg_b
        refine wp_run 2 (pc' := 98) (ls' := [some (.inr (.inr (r_Md, 0))), some (.inl e), some (.inl k), some (.inl (if sG (fun k => B k) (sS n D (D + 1)).toNat < 0 then -1 else sL n D (sG (fun k => B k) (sS n D (D + 1)).toNat))), none]) (st' := [.inl (if sG (fun k => B k) (sS n D (D + 1)).toNat < 0 then -1 else sL n D (sG (fun k => B k) (sS n D (D + 1)).toNat))]) (σ' := srl σ [(r_Md_row, A), (r_Md_first, FX), (r_Md_then, B), (r_Md_made, C)]) rfl ?_
        refine wp_if_ge rfl (by omega) (fun h_12 => ?_) (fun h_12 => ?_)
        · have hg0 := al_nn h_12
          show en_wp k_X12_power_ 103 [some (.inr (.inr (r_Md, 0))), some (.inl e), some (.inl k), some (.inl (if sG (fun k => B k) (sS n D (D + 1)).toNat < 0 then -1 else sL n D (sG (fun k => B k) (sS n D (D + 1)).toNat))), none] [] (srl σ [(r_Md_row, A), (r_Md_first, FX), (r_Md_then, B), (r_Md_made, C)]) _
          refine wp_run 2 (pc' := 106) (ls' := [some (.inr (.inr (r_Md, 0))), some (.inl e), some (.inl k), some (.inl (if sG (fun k => B k) (sS n D (D + 1)).toNat < 0 then -1 else sL n D (sG (fun k => B k) (sS n D (D + 1)).toNat))), none]) (st' := [.inl 7, .inl k]) (σ' := srl σ [(r_Md_row, A), (r_Md_first, FX), (r_Md_then, B), (r_Md_made, C)]) rfl ?_
          refine wp_ic_eq rfl (by omega) (by omega) (fun h_13 => ?_) (fun h_13 => ?_)
          · show en_wp k_X12_power_ 131 [some (.inr (.inr (r_Md, 0))), some (.inl e), some (.inl k), some (.inl (if sG (fun k => B k) (sS n D (D + 1)).toNat < 0 then -1 else sL n D (sG (fun k => B k) (sS n D (D + 1)).toNat))), none] [] (srl σ [(r_Md_row, A), (r_Md_first, FX), (r_Md_then, B), (r_Md_made, C)]) _
            refine wp_run 1 (pc' := 133) (ls' := [some (.inr (.inr (r_Md, 0))), some (.inl e), some (.inl k), some (.inl (if sG (fun k => B k) (sS n D (D + 1)).toNat < 0 then -1 else sL n D (sG (fun k => B k) (sS n D (D + 1)).toNat))), none]) (st' := [.inl (-2)]) (σ' := srl σ [(r_Md_row, A), (r_Md_first, FX), (r_Md_then, B), (r_Md_made, C)]) rfl ?_
            exact wp_iret rfl ⟨A, FX, B, C, (-2), rfl, srl_eq (l' := [(r_Md_row, A), (r_Md_first, FX), (r_Md_then, B), (r_Md_made, C)]) (And.intro rfl (And.intro rfl (And.intro rfl (And.intro rfl trivial)))) (And.intro rfl (And.intro rfl (And.intro rfl (And.intro rfl trivial)))), ⟨by rw [if_pos hev]; exact ⟨FX, hFn, hst_ _ (.inr (.inl ⟨z_no hO hg0, by first | exact .inl (by omega) | exact .inr (tl_p hO hg0 hdd), rfl⟩))⟩, hA3, hF3.1, hB3.1, hC3⟩⟩
          · show en_wp k_X12_power_ 109 [some (.inr (.inr (r_Md, 0))), some (.inl e), some (.inl k), some (.inl (if sG (fun k => B k) (sS n D (D + 1)).toNat < 0 then -1 else sL n D (sG (fun k => B k) (sS n D (D + 1)).toNat))), none] [] (srl σ [(r_Md_row, A), (r_Md_first, FX), (r_Md_then, B), (r_Md_made, C)]) _
            refine wp_run 4 (pc' := 115) (ls' := [some (.inr (.inr (r_Md, 0))), some (.inl e), some (.inl k), some (.inl (if sG (fun k => B k) (sS n D (D + 1)).toNat < 0 then -1 else sL n D (sG (fun k => B k) (sS n D (D + 1)).toNat))), none]) (st' := [.inr (.inr (r_Md_first, 0)), .inr (.inr (r_Md, 0)), .inl (if sG (fun k => B k) (sS n D (D + 1)).toNat < 0 then -1 else sL n D (sG (fun k => B k) (sS n D (D + 1)).toNat))]) (σ' := srl σ [(r_Md_row, A), (r_Md_first, FX), (r_Md_then, B), (r_Md_made, C)]) rfl ?_
            refine wp_fnv (v := .inl (if sG (fun k => FX k) (sS n D (D + 1)).toNat < 0 then -1 else sL n D (sG (fun k => FX k) (sS n D (D + 1)).toNat))) rfl rfl rfl rfl (ct_X12_longest_Md_first (srl σ [(r_Md_row, A), (r_Md_first, FX), (r_Md_then, B), (r_Md_made, C)]) n D p hI hF3.1) ?_
            show en_wp k_X12_power_ 118 [some (.inr (.inr (r_Md, 0))), some (.inl e), some (.inl k), some (.inl (if sG (fun k => B k) (sS n D (D + 1)).toNat < 0 then -1 else sL n D (sG (fun k => B k) (sS n D (D + 1)).toNat))), none] [.inl (if sG (fun k => FX k) (sS n D (D + 1)).toNat < 0 then -1 else sL n D (sG (fun k => FX k) (sS n D (D + 1)).toNat)), .inl (if sG (fun k => B k) (sS n D (D + 1)).toNat < 0 then -1 else sL n D (sG (fun k => B k) (sS n D (D + 1)).toNat))] (srl σ [(r_Md_row, A), (r_Md_first, FX), (r_Md_then, B), (r_Md_made, C)]) _
            have q_14 : -1 ≤ (if sG (fun k => FX k) (sS n D (D + 1)).toNat < 0 then -1 else sL n D (sG (fun k => FX k) (sS n D (D + 1)).toNat)) ∧ (if sG (fun k => FX k) (sS n D (D + 1)).toNat < 0 then -1 else sL n D (sG (fun k => FX k) (sS n D (D + 1)).toNat)) ≤ 7 := lg_b
            refine wp_run 5 (pc' := 127) (ls' := [some (.inr (.inr (r_Md, 0))), some (.inl e), some (.inl k), some (.inl (if sG (fun k => B k) (sS n D (D + 1)).toNat < 0 then -1 else sL n D (sG (fun k => B k) (sS n D (D + 1)).toNat))), none]) (st' := [.inl (σ r_Md_live 0), .inr (.inr (r_Md_degree, 0)), .inl ((if sG (fun k => B k) (sS n D (D + 1)).toNat < 0 then -1 else sL n D (sG (fun k => B k) (sS n D (D + 1)).toNat)) + (if sG (fun k => FX k) (sS n D (D + 1)).toNat < 0 then -1 else sL n D (sG (fun k => FX k) (sS n D (D + 1)).toNat)))]) (σ' := srl σ [(r_Md_row, A), (r_Md_first, FX), (r_Md_then, B), (r_Md_made, C)]) rfl ?_
            refine wp_iald0 rfl rfl (by omega) ?_
            show en_wp k_X12_power_ 128 [some (.inr (.inr (r_Md, 0))), some (.inl e), some (.inl k), some (.inl (if sG (fun k => B k) (sS n D (D + 1)).toNat < 0 then -1 else sL n D (sG (fun k => B k) (sS n D (D + 1)).toNat))), none] [.inl (σ r_Md_degree (σ r_Md_live 0)), .inl ((if sG (fun k => B k) (sS n D (D + 1)).toNat < 0 then -1 else sL n D (sG (fun k => B k) (sS n D (D + 1)).toNat)) + (if sG (fun k => FX k) (sS n D (D + 1)).toNat < 0 then -1 else sL n D (sG (fun k => FX k) (sS n D (D + 1)).toNat)))] (srl σ [(r_Md_row, A), (r_Md_first, FX), (r_Md_then, B), (r_Md_made, C)]) _
            rw [hD]
            show en_wp k_X12_power_ 128 [some (.inr (.inr (r_Md, 0))), some (.inl e), some (.inl k), some (.inl (if sG (fun k => B k) (sS n D (D + 1)).toNat < 0 then -1 else sL n D (sG (fun k => B k) (sS n D (D + 1)).toNat))), none] [.inl D, .inl ((if sG (fun k => B k) (sS n D (D + 1)).toNat < 0 then -1 else sL n D (sG (fun k => B k) (sS n D (D + 1)).toNat)) + (if sG (fun k => FX k) (sS n D (D + 1)).toNat < 0 then -1 else sL n D (sG (fun k => FX k) (sS n D (D + 1)).toNat)))] (srl σ [(r_Md_row, A), (r_Md_first, FX), (r_Md_then, B), (r_Md_made, C)]) _
            refine wp_ic_le rfl (by omega) (by omega) (fun h_15 => ?_) (fun h_15 => ?_)
            · have hdd := h_15
              show en_wp k_X12_power_ 134 [some (.inr (.inr (r_Md, 0))), some (.inl e), some (.inl k), some (.inl (if sG (fun k => B k) (sS n D (D + 1)).toNat < 0 then -1 else sL n D (sG (fun k => B k) (sS n D (D + 1)).toNat))), none] [] (srl σ [(r_Md_row, A), (r_Md_first, FX), (r_Md_then, B), (r_Md_made, C)]) _
              refine wp_run 7 (pc' := 145) (ls' := [some (.inr (.inr (r_Md, 0))), some (.inl e), some (.inl k), some (.inl (if sG (fun k => B k) (sS n D (D + 1)).toNat < 0 then -1 else sL n D (sG (fun k => B k) (sS n D (D + 1)).toNat))), none]) (st' := [.inl 0, .inr (.inr (r_Md_first, 0)), .inl 0, .inr (.inr (r_Md_then, 0)), .inr (.inr (r_Md, 0))]) (σ' := srl σ [(r_Md_row, A), (r_Md_first, FX), (r_Md_then, B), (r_Md_made, C)]) rfl ?_
              refine wp_callv rfl rfl rfl rfl (ct_X12_multiplies_Md_then_Md_first (srl σ [(r_Md_row, A), (r_Md_first, FX), (r_Md_then, B), (r_Md_made, C)]) n D p 0 0 hI (by omega) hB3.1 hF3.1 hC3) ?_
              rintro _ _ ⟨f_16, rfl, rfl, p_17, p_18, p_19⟩
              have p_17 : ∀ x, 0 ≤ x → x < sS n D (D + 1) → f_16 x = prd n D (fun x => B (0 + x)) (fun x => FX (0 + x)) x % p := p_17
              have p_18 : ∀ x, sS n D (D + 1) ≤ x → x < 400 → f_16 x = 0 := p_18
              have p_19 : R97 f_16 := p_19
              refine wp_bk (l2 := [(r_Md_row, A), (r_Md_first, FX), (r_Md_then, B), (r_Md_made, f_16)]) rfl rfl ?_
              show en_wp k_X12_power_ 148 [some (.inr (.inr (r_Md, 0))), some (.inl e), some (.inl k), some (.inl (if sG (fun k => B k) (sS n D (D + 1)).toNat < 0 then -1 else sL n D (sG (fun k => B k) (sS n D (D + 1)).toNat))), none] [] (srl σ [(r_Md_row, A), (r_Md_first, FX), (r_Md_then, B), (r_Md_made, f_16)]) _
              have kq := (⟨p_17, p_18, p_19⟩ : _ ∧ _ ∧ _)
              refine wp_run 2 (pc' := 151) (ls' := [some (.inr (.inr (r_Md, 0))), some (.inl e), some (.inl k), some (.inl (if sG (fun k => B k) (sS n D (D + 1)).toNat < 0 then -1 else sL n D (sG (fun k => B k) (sS n D (D + 1)).toNat))), some (.inl 0)]) (st' := []) (σ' := srl σ [(r_Md_row, A), (r_Md_first, FX), (r_Md_then, B), (r_Md_made, f_16)]) rfl ?_
              refine wp_sub (l := [some (.inr (.inr (r_Md, 0))), some (.inl e), some (.inl k), none, some (.inl 0)]) (And.intro rfl (And.intro rfl (And.intro rfl (And.intro rfl trivial)))) ?_
              exact L_151 _ 0 B f_16 (by omega) ⟨z_no hO hg0, tl_m hO hg0 hdd⟩ (by omega) ⟨fun x h8 h9 => by rw [kq.1 x h8 h9, pr_z0], kq.2.2⟩ (seg_0 _ _ _).symm (Nat.lt_succ_self _)
            · have hdd := h_15
              show en_wp k_X12_power_ 131 [some (.inr (.inr (r_Md, 0))), some (.inl e), some (.inl k), some (.inl (if sG (fun k => B k) (sS n D (D + 1)).toNat < 0 then -1 else sL n D (sG (fun k => B k) (sS n D (D + 1)).toNat))), none] [] (srl σ [(r_Md_row, A), (r_Md_first, FX), (r_Md_then, B), (r_Md_made, C)]) _
              refine wp_run 1 (pc' := 133) (ls' := [some (.inr (.inr (r_Md, 0))), some (.inl e), some (.inl k), some (.inl (if sG (fun k => B k) (sS n D (D + 1)).toNat < 0 then -1 else sL n D (sG (fun k => B k) (sS n D (D + 1)).toNat))), none]) (st' := [.inl (-2)]) (σ' := srl σ [(r_Md_row, A), (r_Md_first, FX), (r_Md_then, B), (r_Md_made, C)]) rfl ?_
              exact wp_iret rfl ⟨A, FX, B, C, (-2), rfl, srl_eq (l' := [(r_Md_row, A), (r_Md_first, FX), (r_Md_then, B), (r_Md_made, C)]) (And.intro rfl (And.intro rfl (And.intro rfl (And.intro rfl trivial)))) (And.intro rfl (And.intro rfl (And.intro rfl (And.intro rfl trivial)))), ⟨by rw [if_pos hev]; exact ⟨FX, hFn, hst_ _ (.inr (.inl ⟨z_no hO hg0, by first | exact .inl (by omega) | exact .inr (tl_p hO hg0 hdd), rfl⟩))⟩, hA3, hF3.1, hB3.1, hC3⟩⟩
        · have hg1 := al_np h_12
          show en_wp k_X12_power_ 101 [some (.inr (.inr (r_Md, 0))), some (.inl e), some (.inl k), some (.inl (if sG (fun k => B k) (sS n D (D + 1)).toNat < 0 then -1 else sL n D (sG (fun k => B k) (sS n D (D + 1)).toNat))), none] [] (srl σ [(r_Md_row, A), (r_Md_first, FX), (r_Md_then, B), (r_Md_made, C)]) _
          refine wp_run 1 (pc' := 102) (ls' := [some (.inr (.inr (r_Md, 0))), some (.inl e), some (.inl k), some (.inl (if sG (fun k => B k) (sS n D (D + 1)).toNat < 0 then -1 else sL n D (sG (fun k => B k) (sS n D (D + 1)).toNat))), none]) (st' := [.inl k]) (σ' := srl σ [(r_Md_row, A), (r_Md_first, FX), (r_Md_then, B), (r_Md_made, C)]) rfl ?_
          exact wp_iret rfl ⟨A, FX, B, C, k, rfl, srl_eq (l' := [(r_Md_row, A), (r_Md_first, FX), (r_Md_then, B), (r_Md_made, C)]) (And.intro rfl (And.intro rfl (And.intro rfl (And.intro rfl trivial)))) (And.intro rfl (And.intro rfl (And.intro rfl (And.intro rfl trivial)))), ⟨by rw [if_pos hev]; exact ⟨FX, hFn, hst_ _ (.inl ⟨z_of hO hg1, rfl⟩)⟩, hA3, hF3.1, hB3.1, hC3⟩⟩
  have L_54 : ∀ (N : Nat) (k : Int) (A : Int → Int) (FX : Int → Int) (B : Int → Int), ((0 ≤ e ∧ e ≤ 5)) → (nfR n D p LW (fun x => σ r_Md_element (400 * e + x)) FX) → (R97 FX ∧ ∀ x, 0 ≤ x → x < sS n D (D + 1) → FX x < p) → (R97 A) → (0 ≤ k ∧ k ≤ sS n D (D + 1)) → (B = seg (σ r_Md_then) 0 k FX) → (sS n D (D + 1) - k).toNat < N → en_wp k_X12_power_ 54 [some (.inr (.inr (r_Md, 0))), some (.inl e), some (.inl k), none, none] [] (srl σ [(r_Md_row, A), (r_Md_first, FX), (r_Md_then, B)]) (fun r σ' => ∃ (f_Md_row : Int → Int), ∃ (f_Md_first : Int → Int), ∃ (f_Md_then : Int → Int), ∃ (f_Md_made : Int → Int), ∃ (rr : Int), r = some (.inl rr) ∧ σ' = srl σ [(r_Md_row, f_Md_row), (r_Md_first, f_Md_first), (r_Md_then, f_Md_then), (r_Md_made, f_Md_made)] ∧ (if (0 ≤ e ∧ e ≤ 5) then ∃ F, nfR n D p LW (fun x => (σ r_Md_element) (400 * e + x)) F ∧ pwr n D p LW F 7 1 F rr else rr = -1) ∧ (R97 f_Md_row) ∧ (R97 f_Md_first) ∧ (R97 f_Md_then) ∧ (R97 f_Md_made)) := by
    intro N
    induction N with
    | zero => intro k A FX B; intros; omega
    | succ N ih_54 =>
      intro k A FX B hev hFn hF3 hA3 hk hB hN_54
      refine wp_run 2 (pc' := 56) (ls' := [some (.inr (.inr (r_Md, 0))), some (.inl e), some (.inl k), none, none]) (st' := [.inr (.inr (r_Md, 0)), .inl k]) (σ' := srl σ [(r_Md_row, A), (r_Md_first, FX), (r_Md_then, B)]) rfl ?_
      refine wp_fnv (v := .inl (sS n D (D + 1))) rfl rfl rfl rfl (ct_X12_all (srl σ [(r_Md_row, A), (r_Md_first, FX), (r_Md_then, B)]) n D p hI) ?_
      show en_wp k_X12_power_ 59 [some (.inr (.inr (r_Md, 0))), some (.inl e), some (.inl k), none, none] [.inl (sS n D (D + 1)), .inl k] (srl σ [(r_Md_row, A), (r_Md_first, FX), (r_Md_then, B)]) _
      have q_20 : 0 ≤ sS n D (D + 1) ∧ sS n D (D + 1) ≤ 364 := sS_b hO
      refine wp_ic_ge rfl (by omega) (by omega) (fun h_21 => ?_) (fun h_21 => ?_)
      · show en_wp k_X12_power_ 80 [some (.inr (.inr (r_Md, 0))), some (.inl e), some (.inl k), none, none] [] (srl σ [(r_Md_row, A), (r_Md_first, FX), (r_Md_then, B)]) _
        refine wp_run 2 (pc' := 82) (ls' := [some (.inr (.inr (r_Md, 0))), some (.inl e), some (.inl 1), none, none]) (st' := []) (σ' := srl σ [(r_Md_row, A), (r_Md_first, FX), (r_Md_then, B)]) rfl ?_
        refine wp_mem (srl_eq (l' := [(r_Md_row, A), (r_Md_first, FX), (r_Md_then, B), (r_Md_made, (σ r_Md_made))]) (And.intro rfl (And.intro rfl (And.intro rfl trivial))) (And.intro rfl (And.intro rfl (And.intro rfl (And.intro rfl trivial))))) ?_
        exact L_82 _ 1 A FX B (σ r_Md_made) hev hFn hF3 hA3 ⟨by rw [hB]; exact R97_seg hth (fun _ _ _ => hF3.1 _), fun x h8 h9 => by rw [hB, seg_in0 (by omega)]; exact hF3.2 x h8 h9⟩ hma (by omega) (fun r h => pwr_c hO (fun x h8 h9 => by rw [hB, seg_in0 (by omega)]) h) (Nat.lt_succ_self _)
      · show en_wp k_X12_power_ 62 [some (.inr (.inr (r_Md, 0))), some (.inl e), some (.inl k), none, none] [] (srl σ [(r_Md_row, A), (r_Md_first, FX), (r_Md_then, B)]) _
        refine wp_run 6 (pc' := 72) (ls' := [some (.inr (.inr (r_Md, 0))), some (.inl e), some (.inl k), none, none]) (st' := [.inl k, .inr (.inr (r_Md_first, 0)), .inl k, .inr (.inr (r_Md_then, 0))]) (σ' := srl σ [(r_Md_row, A), (r_Md_first, FX), (r_Md_then, B)]) rfl ?_
        refine wp_iald0 rfl rfl (by omega) ?_
        show en_wp k_X12_power_ 73 [some (.inr (.inr (r_Md, 0))), some (.inl e), some (.inl k), none, none] [.inl (FX k), .inl k, .inr (.inr (r_Md_then, 0))] (srl σ [(r_Md_row, A), (r_Md_first, FX), (r_Md_then, B)]) _
        refine wp_iast0 rfl rfl (by omega) (wp_wr (l2 := [(r_Md_row, A), (r_Md_first, FX), (r_Md_then, (up B k (FX k)))]) rfl ?_)
        show en_wp k_X12_power_ 74 [some (.inr (.inr (r_Md, 0))), some (.inl e), some (.inl k), none, none] [] (srl σ [(r_Md_row, A), (r_Md_first, FX), (r_Md_then, (up B k (FX k)))]) _
        refine wp_run 2 (pc' := 54) (ls' := [some (.inr (.inr (r_Md, 0))), some (.inl e), some (.inl (k + 1)), none, none]) (st' := []) (σ' := srl σ [(r_Md_row, A), (r_Md_first, FX), (r_Md_then, (up B k (FX k)))]) rfl ?_
        exact ih_54 (k + 1) A FX (up B k (FX k)) hev hFn hF3 hA3 (by omega) (by rw [hB]; exact seg_up0 hk.1 rfl) (by omega)
  have L_11 : ∀ (N : Nat) (k : Int) (FX : Int → Int), ((0 ≤ e ∧ e ≤ 5)) → (0 ≤ k ∧ k ≤ sS n D (D + 1)) → (FX = seg (σ r_Md_first) 0 k (fun x => σ r_Md_element (400 * e + x))) → (sS n D (D + 1) - k).toNat < N → en_wp k_X12_power_ 11 [some (.inr (.inr (r_Md, 0))), some (.inl e), some (.inl k), none, none] [] (srl σ [(r_Md_first, FX)]) (fun r σ' => ∃ (f_Md_row : Int → Int), ∃ (f_Md_first : Int → Int), ∃ (f_Md_then : Int → Int), ∃ (f_Md_made : Int → Int), ∃ (rr : Int), r = some (.inl rr) ∧ σ' = srl σ [(r_Md_row, f_Md_row), (r_Md_first, f_Md_first), (r_Md_then, f_Md_then), (r_Md_made, f_Md_made)] ∧ (if (0 ≤ e ∧ e ≤ 5) then ∃ F, nfR n D p LW (fun x => (σ r_Md_element) (400 * e + x)) F ∧ pwr n D p LW F 7 1 F rr else rr = -1) ∧ (R97 f_Md_row) ∧ (R97 f_Md_first) ∧ (R97 f_Md_then) ∧ (R97 f_Md_made)) := by
    intro N
    induction N with
    | zero => intro k FX; intros; omega
    | succ N ih_11 =>
      intro k FX hev hk hF hN_11
      refine wp_run 2 (pc' := 13) (ls' := [some (.inr (.inr (r_Md, 0))), some (.inl e), some (.inl k), none, none]) (st' := [.inr (.inr (r_Md, 0)), .inl k]) (σ' := srl σ [(r_Md_first, FX)]) rfl ?_
      refine wp_fnv (v := .inl (sS n D (D + 1))) rfl rfl rfl rfl (ct_X12_all (srl σ [(r_Md_first, FX)]) n D p hI) ?_
      show en_wp k_X12_power_ 16 [some (.inr (.inr (r_Md, 0))), some (.inl e), some (.inl k), none, none] [.inl (sS n D (D + 1)), .inl k] (srl σ [(r_Md_first, FX)]) _
      have q_22 : 0 ≤ sS n D (D + 1) ∧ sS n D (D + 1) ≤ 364 := sS_b hO
      refine wp_ic_ge rfl (by omega) (by omega) (fun h_23 => ?_) (fun h_23 => ?_)
      · show en_wp k_X12_power_ 43 [some (.inr (.inr (r_Md, 0))), some (.inl e), some (.inl k), none, none] [] (srl σ [(r_Md_first, FX)]) _
        refine wp_run 4 (pc' := 49) (ls' := [some (.inr (.inr (r_Md, 0))), some (.inl e), some (.inl k), none, none]) (st' := [.inl 0, .inr (.inr (r_Md_first, 0)), .inr (.inr (r_Md, 0))]) (σ' := srl σ [(r_Md_first, FX)]) rfl ?_
        have hkA : k = sS n D (D + 1) := by omega
        rw [hkA] at hF
        have hF97 : R97 FX := by rw [hF]; exact R97_seg hfi (fun _ _ _ => hE _)
        have hFp : ∀ x, 0 ≤ x → x < sS n D (D + 1) → FX (0 + x) < p := fun x h8 h9 => by rw [Int.zero_add, hF, seg_in0 ⟨h8, h9⟩]; exact heo e x (by omega) ⟨h8, h9⟩
        refine wp_callv rfl rfl rfl rfl (ct_X12_plains_Md_first (srl σ [(r_Md_first, FX)]) n D p LW 0 hI (by omega) hF97 hFp hrow hna) ?_
        rintro _ _ ⟨f_24, f_25, rfl, rfl, p_26, p_27, p_28, p_29, p_30⟩
        have p_26 : nfR n D p LW (fun x => FX (0 + x)) (fun x => f_25 (0 + x)) := p_26
        have p_27 : ∀ x, (x < 0 ∨ 0 + sS n D (D + 1) ≤ x) → f_25 x = FX x := p_27
        have p_28 : R97 f_24 := p_28
        have p_29 : R97 f_25 := p_29
        have p_30 : ∀ x, 0 ≤ x → x < sS n D (D + 1) → f_25 (0 + x) < p := p_30
        refine wp_bk (l2 := [(r_Md_first, f_25), (r_Md_row, f_24)]) rfl rfl ?_
        show en_wp k_X12_power_ 52 [some (.inr (.inr (r_Md, 0))), some (.inl e), some (.inl k), none, none] [] (srl σ [(r_Md_first, f_25), (r_Md_row, f_24)]) _
        have kp := (⟨p_26, p_27, p_28, p_29, p_30⟩ : _ ∧ _ ∧ _ ∧ _ ∧ _)
        have kn := al_nf hO kp.1 hF
        refine wp_run 2 (pc' := 54) (ls' := [some (.inr (.inr (r_Md, 0))), some (.inl e), some (.inl 0), none, none]) (st' := []) (σ' := srl σ [(r_Md_first, f_25), (r_Md_row, f_24)]) rfl ?_
        refine wp_mem (srl_eq (l' := [(r_Md_row, f_24), (r_Md_first, f_25), (r_Md_then, (σ r_Md_then))]) (And.intro rfl (And.intro rfl trivial)) (And.intro rfl (And.intro rfl (And.intro rfl trivial)))) ?_
        exact L_54 _ 0 f_24 f_25 (σ r_Md_then) hev kn ⟨kp.2.2.2.1, fun x h8 h9 => by have := kp.2.2.2.2 x h8 h9; rwa [Int.zero_add] at this⟩ kp.2.2.1 (by omega) (seg_0 _ _ _).symm (Nat.lt_succ_self _)
      · show en_wp k_X12_power_ 19 [some (.inr (.inr (r_Md, 0))), some (.inl e), some (.inl k), none, none] [] (srl σ [(r_Md_first, FX)]) _
        refine wp_run 10 (pc' := 35) (ls' := [some (.inr (.inr (r_Md, 0))), some (.inl e), some (.inl k), none, none]) (st' := [.inl ((400 * e) + k), .inr (.inr (r_Md_element, 0)), .inl k, .inr (.inr (r_Md_first, 0))]) (σ' := srl σ [(r_Md_first, FX)]) rfl ?_
        
        refine wp_iald0 rfl rfl (by omega) ?_
        show en_wp k_X12_power_ 36 [some (.inr (.inr (r_Md, 0))), some (.inl e), some (.inl k), none, none] [.inl (σ r_Md_element ((400 * e) + k)), .inl k, .inr (.inr (r_Md_first, 0))] (srl σ [(r_Md_first, FX)]) _
        refine wp_iast0 rfl rfl (by omega) (wp_wr (l2 := [(r_Md_first, (up FX k (σ r_Md_element ((400 * e) + k))))]) rfl ?_)
        show en_wp k_X12_power_ 37 [some (.inr (.inr (r_Md, 0))), some (.inl e), some (.inl k), none, none] [] (srl σ [(r_Md_first, (up FX k (σ r_Md_element ((400 * e) + k))))]) _
        refine wp_run 2 (pc' := 11) (ls' := [some (.inr (.inr (r_Md, 0))), some (.inl e), some (.inl (k + 1)), none, none]) (st' := []) (σ' := srl σ [(r_Md_first, (up FX k (σ r_Md_element ((400 * e) + k))))]) rfl ?_
        exact ih_11 (k + 1) (up FX k (σ r_Md_element ((400 * e) + k))) hev (by omega) (by rw [hF]; exact seg_up0 hk.1 rfl) (by omega)
  refine wp_run 1 (pc' := 1) (ls' := [some (.inr (.inr (r_Md, 0))), some (.inl e), none, none, none]) (st' := [.inl e]) (σ' := srl σ []) rfl ?_
  refine wp_fns (v := .inl (bI (0 ≤ e ∧ e ≤ 5))) rfl rfl rfl rfl rfl (ct_X12_isElement σ e (by omega)) ?_
  show en_wp k_X12_power_ 4 [some (.inr (.inr (r_Md, 0))), some (.inl e), none, none, none] [.inl (bI (0 ≤ e ∧ e ≤ 5))] (srl σ []) _
  refine wp_if_neb rfl (fun h_31 => ?_) (fun h_31 => ?_)
  · show en_wp k_X12_power_ 9 [some (.inr (.inr (r_Md, 0))), some (.inl e), none, none, none] [] (srl σ []) _
    refine wp_run 2 (pc' := 11) (ls' := [some (.inr (.inr (r_Md, 0))), some (.inl e), some (.inl 0), none, none]) (st' := []) (σ' := srl σ []) rfl ?_
    refine wp_mem (srl_eq (l' := [(r_Md_first, (σ r_Md_first))]) trivial (And.intro rfl trivial)) ?_
    exact L_11 _ 0 (σ r_Md_first) (by omega) (by omega) (seg_0 _ _ _).symm (Nat.lt_succ_self _)
  · show en_wp k_X12_power_ 7 [some (.inr (.inr (r_Md, 0))), some (.inl e), none, none, none] [] (srl σ []) _
    refine wp_run 1 (pc' := 8) (ls' := [some (.inr (.inr (r_Md, 0))), some (.inl e), none, none, none]) (st' := [.inl (-1)]) (σ' := srl σ []) rfl ?_
    exact wp_iret rfl ⟨(σ r_Md_row), (σ r_Md_first), (σ r_Md_then), (σ r_Md_made), (-1), rfl, srl_eq (l' := [(r_Md_row, σ r_Md_row), (r_Md_first, σ r_Md_first), (r_Md_then, σ r_Md_then), (r_Md_made, σ r_Md_made)]) trivial (And.intro rfl (And.intro rfl (And.intro rfl (And.intro rfl trivial)))), ⟨by rw [if_neg (by omega)], hrow, hfi, hth, hma⟩⟩
