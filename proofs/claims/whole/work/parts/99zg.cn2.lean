/-! contracts of methods, walked (written by wip/whole/walk.py from the annotations ann_m45) -/
set_option maxRecDepth 8000 in
theorem ct_X12_longerChains (σ : en_m) (n : Int) (D : Int) (p : Int) (s9 : Nat) (hI : mI σ n D p) (hs9 : s9 ≤ 3) (hF : ∀ t j, 0 ≤ t → t ≤ D → 0 ≤ j → j < sS n D (D + 1) → (σ r_Md_chain) (400 * t + j) = chS ((σ r_Md_leads)) n D s9 t j) (hmo : lMo ((σ r_Md_leads)) n D) (hlead : R01 ((σ r_Md_leads))) : en_ct z_X12_longerChains [.inr (.inr (r_Md, 0))] σ (fun r σ' => ∃ (f_Md_chain : Int → Int), ∃ (f_Md_chainThen : Int → Int), r = none ∧ σ' = srl σ [(r_Md_chain, f_Md_chain), (r_Md_chainThen, f_Md_chainThen)] ∧ (∀ t j, 0 ≤ t → t ≤ D → 0 ≤ j → j < sS n D (D + 1) → f_Md_chain (400 * t + j) = chS ((σ r_Md_leads)) n D (s9 + 1) t j) ∧ (∀ t j, 0 ≤ t → t ≤ 7 → sS n D (D + 1) ≤ j → j < 400 → f_Md_chain (400 * t + j) = 0)) := by
  show en_wp k_X12_longerChains 0 [some (.inr (.inr (r_Md, 0))), none, none, none, none, none] [] (srl σ []) (fun r σ' => ∃ (f_Md_chain : Int → Int), ∃ (f_Md_chainThen : Int → Int), r = none ∧ σ' = srl σ [(r_Md_chain, f_Md_chain), (r_Md_chainThen, f_Md_chainThen)] ∧ (∀ t j, 0 ≤ t → t ≤ D → 0 ≤ j → j < sS n D (D + 1) → f_Md_chain (400 * t + j) = chS ((σ r_Md_leads)) n D (s9 + 1) t j) ∧ (∀ t j, 0 ≤ t → t ≤ 7 → sS n D (D + 1) ≤ j → j < 400 → f_Md_chain (400 * t + j) = 0))
  have hI2 := hI
  obtain ⟨hO, hL, hn, hD, hp, hpw, hst⟩ := hI2
  obtain ⟨⟨hO1, hO2⟩, ⟨hO3, hO4⟩, hO5, hO6, hO7, hO8⟩ := id hO
  have hSb := sS_b (k := D + 1) hO
  have hS1 := sS_1 hO
  have L_139 : ∀ (N : Nat) (k : Int) (F : Int → Int) (G : Int → Int), (0 ≤ k ∧ k ≤ 3200) → (∀ t j, 0 ≤ t → t ≤ 7 → sS n D (D + 1) ≤ j → j < 400 → G (400 * t + j) = 0) → (∀ t j, 0 ≤ t → t ≤ D → 0 ≤ j → j < sS n D (D + 1) → G (400 * t + j) = chS (σ r_Md_leads) n D (s9 + 1) t j) → (F = seg (σ r_Md_chain) 0 k G) → (3200 - k).toNat < N → en_wp k_X12_longerChains 139 [some (.inr (.inr (r_Md, 0))), some (.inl k), none, none, none, none] [] (srl σ [(r_Md_chain, F), (r_Md_chainThen, G)]) (fun r σ' => ∃ (f_Md_chain : Int → Int), ∃ (f_Md_chainThen : Int → Int), r = none ∧ σ' = srl σ [(r_Md_chain, f_Md_chain), (r_Md_chainThen, f_Md_chainThen)] ∧ (∀ t j, 0 ≤ t → t ≤ D → 0 ≤ j → j < sS n D (D + 1) → f_Md_chain (400 * t + j) = chS ((σ r_Md_leads)) n D (s9 + 1) t j) ∧ (∀ t j, 0 ≤ t → t ≤ 7 → sS n D (D + 1) ≤ j → j < 400 → f_Md_chain (400 * t + j) = 0)) := by
    intro N
    induction N with
    | zero => intro k F G; intros; omega
    | succ N ih_139 =>
      intro k F G hk hZ hG hFk hN_139
      refine wp_run 2 (pc' := 143) (ls' := [some (.inr (.inr (r_Md, 0))), some (.inl k), none, none, none, none]) (st' := [.inl 3200, .inl k]) (σ' := srl σ [(r_Md_chain, F), (r_Md_chainThen, G)]) rfl ?_
      refine wp_ic_ge rfl (by omega) (by omega) (fun h_1 => ?_) (fun h_1 => ?_)
      · show en_wp k_X12_longerChains 164 [some (.inr (.inr (r_Md, 0))), some (.inl k), none, none, none, none] [] (srl σ [(r_Md_chain, F), (r_Md_chainThen, G)]) _
        exact wp_vret rfl ⟨F, G, rfl, srl_eq (l' := [(r_Md_chain, F), (r_Md_chainThen, G)]) (And.intro rfl (And.intro rfl trivial)) (And.intro rfl (And.intro rfl trivial)), ⟨fun t j a b a0 a1 => by rw [hFk, seg_in0 (by omega)]; exact hG t j a b a0 a1, fun t j a b a0 a1 => by rw [hFk, seg_in0 (by omega)]; exact hZ t j a b a0 a1⟩⟩
      · show en_wp k_X12_longerChains 146 [some (.inr (.inr (r_Md, 0))), some (.inl k), none, none, none, none] [] (srl σ [(r_Md_chain, F), (r_Md_chainThen, G)]) _
        refine wp_run 6 (pc' := 156) (ls' := [some (.inr (.inr (r_Md, 0))), some (.inl k), none, none, none, none]) (st' := [.inl k, .inr (.inr (r_Md_chainThen, 0)), .inl k, .inr (.inr (r_Md_chain, 0))]) (σ' := srl σ [(r_Md_chain, F), (r_Md_chainThen, G)]) rfl ?_
        refine wp_iald0 rfl rfl (by omega) ?_
        show en_wp k_X12_longerChains 157 [some (.inr (.inr (r_Md, 0))), some (.inl k), none, none, none, none] [.inl (G k), .inl k, .inr (.inr (r_Md_chain, 0))] (srl σ [(r_Md_chain, F), (r_Md_chainThen, G)]) _
        refine wp_iast0 rfl rfl (by omega) (wp_wr (l2 := [(r_Md_chain, (up F k (G k))), (r_Md_chainThen, G)]) rfl ?_)
        show en_wp k_X12_longerChains 158 [some (.inr (.inr (r_Md, 0))), some (.inl k), none, none, none, none] [] (srl σ [(r_Md_chain, (up F k (G k))), (r_Md_chainThen, G)]) _
        refine wp_run 2 (pc' := 139) (ls' := [some (.inr (.inr (r_Md, 0))), some (.inl (k + 1)), none, none, none, none]) (st' := []) (σ' := srl σ [(r_Md_chain, (up F k (G k))), (r_Md_chainThen, G)]) rfl ?_
        exact ih_139 (k + 1) (up F k (G k)) G (by omega) hZ hG (by rw [hFk]; exact seg_up0 hk.1 rfl) (by omega)
  have L_24 : ∀ (N : Nat) (l : Int) (G : Int → Int), (1 ≤ l ∧ l ≤ D) → (∀ t j, 0 ≤ t → t ≤ 7 → sS n D (D + 1) ≤ j → j < 400 → G (400 * t + j) = 0) → (∀ t j, 0 ≤ t → t ≤ D → 0 ≤ j → j < sS n D (D + 1) → G (400 * t + j) = chP (σ r_Md_leads) n D s9 t j l 1) → (D - l).toNat < N → en_wp k_X12_longerChains 24 [some (.inr (.inr (r_Md, 0))), some (.inl l), none, none, none, none] [] (srl σ [(r_Md_chainThen, G)]) (fun r σ' => ∃ (f_Md_chain : Int → Int), ∃ (f_Md_chainThen : Int → Int), r = none ∧ σ' = srl σ [(r_Md_chain, f_Md_chain), (r_Md_chainThen, f_Md_chainThen)] ∧ (∀ t j, 0 ≤ t → t ≤ D → 0 ≤ j → j < sS n D (D + 1) → f_Md_chain (400 * t + j) = chS ((σ r_Md_leads)) n D (s9 + 1) t j) ∧ (∀ t j, 0 ≤ t → t ≤ 7 → sS n D (D + 1) ≤ j → j < 400 → f_Md_chain (400 * t + j) = 0)) := by
    intro N
    induction N with
    | zero => intro l G; intros; omega
    | succ N ih_24 =>
      intro l G hl hZ hG hN_24
      have L_39 : ∀ (N : Nat) (e : Int) (G : Int → Int), (l < D) → (1 ≤ e ∧ e ≤ l + 1) → (∀ t j, 0 ≤ t → t ≤ 7 → sS n D (D + 1) ≤ j → j < 400 → G (400 * t + j) = 0) → (∀ t j, 0 ≤ t → t ≤ D → 0 ≤ j → j < sS n D (D + 1) → G (400 * t + j) = chP (σ r_Md_leads) n D s9 t j l (sS n D e)) → (l + 1 - e).toNat < N → en_wp k_X12_longerChains 39 [some (.inr (.inr (r_Md, 0))), some (.inl l), some (.inl e), none, none, none] [] (srl σ [(r_Md_chainThen, G)]) (fun r σ' => ∃ (f_Md_chain : Int → Int), ∃ (f_Md_chainThen : Int → Int), r = none ∧ σ' = srl σ [(r_Md_chain, f_Md_chain), (r_Md_chainThen, f_Md_chainThen)] ∧ (∀ t j, 0 ≤ t → t ≤ D → 0 ≤ j → j < sS n D (D + 1) → f_Md_chain (400 * t + j) = chS ((σ r_Md_leads)) n D (s9 + 1) t j) ∧ (∀ t j, 0 ≤ t → t ≤ 7 → sS n D (D + 1) ≤ j → j < 400 → f_Md_chain (400 * t + j) = 0)) := by
        intro N
        induction N with
        | zero => intro e G; intros; omega
        | succ N ih_39 =>
          intro e G hlD he hZ hG hN_39
          have hSl := sS_b (k := e) hO
          have hSl1 := sS_b (k := e + 1) hO
          have hSls : sS n D (e + 1) = sS n D e + sW n D e := sS_succ (by omega)
          have hSlD : sS n D (e + 1) ≤ sS n D (D + 1) := sS_mono hO1 (by omega)
          have hWe0 := sW_b (k := e) hO
          have L_46 : ∀ (N : Nat) (u : Int) (G : Int → Int), (e ≤ l) → (0 ≤ u ∧ u ≤ sW n D e) → (∀ t j, 0 ≤ t → t ≤ 7 → sS n D (D + 1) ≤ j → j < 400 → G (400 * t + j) = 0) → (∀ t j, 0 ≤ t → t ≤ D → 0 ≤ j → j < sS n D (D + 1) → G (400 * t + j) = chP (σ r_Md_leads) n D s9 t j l (sS n D e + u)) → (sW n D e - u).toNat < N → en_wp k_X12_longerChains 46 [some (.inr (.inr (r_Md, 0))), some (.inl l), some (.inl e), some (.inl u), none, none] [] (srl σ [(r_Md_chainThen, G)]) (fun r σ' => ∃ (f_Md_chain : Int → Int), ∃ (f_Md_chainThen : Int → Int), r = none ∧ σ' = srl σ [(r_Md_chain, f_Md_chain), (r_Md_chainThen, f_Md_chainThen)] ∧ (∀ t j, 0 ≤ t → t ≤ D → 0 ≤ j → j < sS n D (D + 1) → f_Md_chain (400 * t + j) = chS ((σ r_Md_leads)) n D (s9 + 1) t j) ∧ (∀ t j, 0 ≤ t → t ≤ 7 → sS n D (D + 1) ≤ j → j < 400 → f_Md_chain (400 * t + j) = 0)) := by
            intro N
            induction N with
            | zero => intro u G; intros; omega
            | succ N ih_46 =>
              intro u G hel hu hZ hG hN_46
              have hWe := sW_b (k := e) hO
              have L_86 : ∀ (N : Nat) (c : Int) (f : Int) (G : Int → Int), (u < sW n D e) → (c = chS (σ r_Md_leads) n D s9 l (sS n D e + u) ∧ 0 ≤ c ∧ c ≤ 48228544) → (1 ≤ f ∧ f ≤ 7) → (∀ t j, 0 ≤ t → t ≤ 7 → sS n D (D + 1) ≤ j → j < 400 → G (400 * t + j) = 0) → (∀ t j, 0 ≤ t → t ≤ D → 0 ≤ j → j < sS n D (D + 1) → G (400 * t + j) = chP (σ r_Md_leads) n D s9 t j l (if sL n D j < f then sS n D e + u + 1 else sS n D e + u)) → (D - f).toNat < N → en_wp k_X12_longerChains 86 [some (.inr (.inr (r_Md, 0))), some (.inl l), some (.inl e), some (.inl u), some (.inl c), some (.inl f)] [] (srl σ [(r_Md_chainThen, G)]) (fun r σ' => ∃ (f_Md_chain : Int → Int), ∃ (f_Md_chainThen : Int → Int), r = none ∧ σ' = srl σ [(r_Md_chain, f_Md_chain), (r_Md_chainThen, f_Md_chainThen)] ∧ (∀ t j, 0 ≤ t → t ≤ D → 0 ≤ j → j < sS n D (D + 1) → f_Md_chain (400 * t + j) = chS ((σ r_Md_leads)) n D (s9 + 1) t j) ∧ (∀ t j, 0 ≤ t → t ≤ 7 → sS n D (D + 1) ≤ j → j < 400 → f_Md_chain (400 * t + j) = 0)) := by
                intro N
                induction N with
                | zero => intro c f G; intros; omega
                | succ N ih_86 =>
                  intro c f G huu hc hf hZ hG hN_86
                  refine wp_run 7 (pc' := 98) (ls' := [some (.inr (.inr (r_Md, 0))), some (.inl l), some (.inl e), some (.inl u), some (.inl c), some (.inl f)]) (st' := [.inl (σ r_Md_live 0), .inr (.inr (r_Md_degree, 0)), .inl (l + f)]) (σ' := srl σ [(r_Md_chainThen, G)]) rfl ?_
                  refine wp_iald0 rfl rfl (by omega) ?_
                  show en_wp k_X12_longerChains 99 [some (.inr (.inr (r_Md, 0))), some (.inl l), some (.inl e), some (.inl u), some (.inl c), some (.inl f)] [.inl (σ r_Md_degree (σ r_Md_live 0)), .inl (l + f)] (srl σ [(r_Md_chainThen, G)]) _
                  rw [hD]
                  show en_wp k_X12_longerChains 99 [some (.inr (.inr (r_Md, 0))), some (.inl l), some (.inl e), some (.inl u), some (.inl c), some (.inl f)] [.inl D, .inl (l + f)] (srl σ [(r_Md_chainThen, G)]) _
                  refine wp_ic_gt rfl (by omega) (by omega) (fun h_2 => ?_) (fun h_2 => ?_)
                  · show en_wp k_X12_longerChains 119 [some (.inr (.inr (r_Md, 0))), some (.inl l), some (.inl e), some (.inl u), some (.inl c), some (.inl f)] [] (srl σ [(r_Md_chainThen, G)]) _
                    refine wp_run 2 (pc' := 46) (ls' := [some (.inr (.inr (r_Md, 0))), some (.inl l), some (.inl e), some (.inl (u + 1)), some (.inl c), some (.inl f)]) (st' := []) (σ' := srl σ [(r_Md_chainThen, G)]) rfl ?_
                    refine wp_sub (l := [some (.inr (.inr (r_Md, 0))), some (.inl l), some (.inl e), some (.inl (u + 1)), none, none]) (And.intro rfl (And.intro rfl (And.intro rfl (And.intro rfl trivial)))) ?_
                    exact ih_46 (u + 1) G (by omega) (by omega) hZ (by rw [show sS n D e + (u + 1) = sS n D e + u + 1 by omega]; exact cn_end (by omega) (.inr (by omega)) hG) (by omega)
                  · show en_wp k_X12_longerChains 102 [some (.inr (.inr (r_Md, 0))), some (.inl l), some (.inl e), some (.inl u), some (.inl c), some (.inl f)] [] (srl σ [(r_Md_chainThen, G)]) _
                    refine wp_run 6 (pc' := 110) (ls' := [some (.inr (.inr (r_Md, 0))), some (.inl l), some (.inl e), some (.inl u), some (.inl c), some (.inl f)]) (st' := [.inl c, .inl f, .inl u, .inl e, .inl l, .inr (.inr (r_Md, 0))]) (σ' := srl σ [(r_Md_chainThen, G)]) rfl ?_
                    have hSf := sS_b (k := f) hO
                    have hSf1 := sS_b (k := f + 1) hO
                    have hSs : sS n D (f + 1) = sS n D f + sW n D f := sS_succ (by omega)
                    have hSfD : sS n D (f + 1) ≤ sS n D (D + 1) := sS_mono hO1 (by omega)
                    refine wp_callv rfl rfl rfl rfl (ct_X12_step (srl σ [(r_Md_chainThen, G)]) n D p l e u f c hI (by omega) ⟨hu.1, huu⟩ (by omega) (by omega) hmo hlead) ?_
                    rintro _ _ ⟨f_3, rfl, rfl, p_4, p_5⟩
                    have p_4 : ∀ v, 0 ≤ v → v < sW n D f → f_3 (400 * (l + f) + (sS n D f + v)) = G (400 * (l + f) + (sS n D f + v)) + (if okC ((σ r_Md_leads)) n D (sS n D e + u) (sS n D f + v) then c else 0) := p_4
                    have p_5 : ∀ x, (x < 400 * (l + f) + sS n D f ∨ 400 * (l + f) + (sS n D f + sW n D f) ≤ x) → f_3 x = G x := p_5
                    refine wp_bk (l2 := [(r_Md_chainThen, f_3)]) rfl rfl ?_
                    show en_wp k_X12_longerChains 113 [some (.inr (.inr (r_Md, 0))), some (.inl l), some (.inl e), some (.inl u), some (.inl c), some (.inl f)] [] (srl σ [(r_Md_chainThen, f_3)]) _
                    have kt := (⟨p_4, p_5⟩ : _ ∧ _)
                    refine wp_run 2 (pc' := 86) (ls' := [some (.inr (.inr (r_Md, 0))), some (.inl l), some (.inl e), some (.inl u), some (.inl c), some (.inl (f + 1))]) (st' := []) (σ' := srl σ [(r_Md_chainThen, f_3)]) rfl ?_
                    exact ih_86 c (f + 1) f_3 (by omega) hc (by omega) (fun t j a b a0 a1 => by rw [kt.2 _ (by omega)]; exact hZ t j a b a0 a1) (cn_len hO (by omega) hl.1 (by omega) (by omega) hc.1 kt.1 kt.2 hG) (by omega)
              refine wp_run 3 (pc' := 49) (ls' := [some (.inr (.inr (r_Md, 0))), some (.inl l), some (.inl e), some (.inl u), none, none]) (st' := [.inl e, .inr (.inr (r_Md, 0)), .inl u]) (σ' := srl σ [(r_Md_chainThen, G)]) rfl ?_
              refine wp_fnv (v := .inl (sW n D e)) rfl rfl rfl rfl (ct_X12_wide (srl σ [(r_Md_chainThen, G)]) n D p e hI (by omega)) ?_
              show en_wp k_X12_longerChains 52 [some (.inr (.inr (r_Md, 0))), some (.inl l), some (.inl e), some (.inl u), none, none] [.inl (sW n D e), .inl u] (srl σ [(r_Md_chainThen, G)]) _
              have q_6 : 0 ≤ sW n D e ∧ sW n D e ≤ 256 := sW_b hO
              refine wp_ic_ge rfl (by omega) (by omega) (fun h_7 => ?_) (fun h_7 => ?_)
              · show en_wp k_X12_longerChains 125 [some (.inr (.inr (r_Md, 0))), some (.inl l), some (.inl e), some (.inl u), none, none] [] (srl σ [(r_Md_chainThen, G)]) _
                refine wp_run 2 (pc' := 39) (ls' := [some (.inr (.inr (r_Md, 0))), some (.inl l), some (.inl (e + 1)), some (.inl u), none, none]) (st' := []) (σ' := srl σ [(r_Md_chainThen, G)]) rfl ?_
                refine wp_sub (l := [some (.inr (.inr (r_Md, 0))), some (.inl l), some (.inl (e + 1)), none, none, none]) (And.intro rfl (And.intro rfl (And.intro rfl trivial))) ?_
                exact ih_39 (e + 1) G (by omega) (by omega) hZ (by rw [show sS n D (e + 1) = sS n D e + u by omega]; exact hG) (by omega)
              · show en_wp k_X12_longerChains 55 [some (.inr (.inr (r_Md, 0))), some (.inl l), some (.inl e), some (.inl u), none, none] [] (srl σ [(r_Md_chainThen, G)]) _
                refine wp_run 7 (pc' := 66) (ls' := [some (.inr (.inr (r_Md, 0))), some (.inl l), some (.inl e), some (.inl u), none, none]) (st' := [.inl e, .inr (.inr (r_Md, 0)), .inl (400 * l), .inr (.inr (r_Md_chain, 0))]) (σ' := srl σ [(r_Md_chainThen, G)]) rfl ?_
                refine wp_fnv (v := .inl (sS n D e)) rfl rfl rfl rfl (ct_X12_start (srl σ [(r_Md_chainThen, G)]) n D p e hI (by omega)) ?_
                show en_wp k_X12_longerChains 69 [some (.inr (.inr (r_Md, 0))), some (.inl l), some (.inl e), some (.inl u), none, none] [.inl (sS n D e), .inl (400 * l), .inr (.inr (r_Md_chain, 0))] (srl σ [(r_Md_chainThen, G)]) _
                have q_8 : 0 ≤ sS n D e ∧ sS n D e ≤ 364 := sS_b hO
                refine wp_run 3 (pc' := 72) (ls' := [some (.inr (.inr (r_Md, 0))), some (.inl l), some (.inl e), some (.inl u), none, none]) (st' := [.inl (((400 * l) + (sS n D e)) + u), .inr (.inr (r_Md_chain, 0))]) (σ' := srl σ [(r_Md_chainThen, G)]) rfl ?_
                have hci : σ r_Md_chain (400 * l + (sS n D e + u)) = chS (σ r_Md_leads) n D s9 l (sS n D e + u) := hF l (sS n D e + u) (by omega) (by omega) (by omega) (by omega)
                have hcb := ch_3 (L := (σ r_Md_leads)) hO hs9 l (sS n D e + u)
                have had : 400 * l + (sS n D e) + u = 400 * l + (sS n D e + u) := Int.add_assoc _ _ _
                refine wp_iald0 rfl rfl (by omega) ?_
                show en_wp k_X12_longerChains 73 [some (.inr (.inr (r_Md, 0))), some (.inl l), some (.inl e), some (.inl u), none, none] [.inl (σ r_Md_chain (((400 * l) + (sS n D e)) + u))] (srl σ [(r_Md_chainThen, G)]) _
                rw [had]
                show en_wp k_X12_longerChains 73 [some (.inr (.inr (r_Md, 0))), some (.inl l), some (.inl e), some (.inl u), none, none] [.inl (σ r_Md_chain (400 * l + (sS n D e + u)))] (srl σ [(r_Md_chainThen, G)]) _
                refine wp_run 2 (pc' := 77) (ls' := [some (.inr (.inr (r_Md, 0))), some (.inl l), some (.inl e), some (.inl u), some (.inl (σ r_Md_chain (400 * l + (sS n D e + u)))), none]) (st' := [.inl (σ r_Md_chain (400 * l + (sS n D e + u)))]) (σ' := srl σ [(r_Md_chainThen, G)]) rfl ?_
                refine wp_if_ne rfl (by omega) (fun h_9 => ?_) (fun h_9 => ?_)
                · show en_wp k_X12_longerChains 83 [some (.inr (.inr (r_Md, 0))), some (.inl l), some (.inl e), some (.inl u), some (.inl (σ r_Md_chain (400 * l + (sS n D e + u)))), none] [] (srl σ [(r_Md_chainThen, G)]) _
                  refine wp_run 2 (pc' := 86) (ls' := [some (.inr (.inr (r_Md, 0))), some (.inl l), some (.inl e), some (.inl u), some (.inl (σ r_Md_chain (400 * l + (sS n D e + u)))), some (.inl 1)]) (st' := []) (σ' := srl σ [(r_Md_chainThen, G)]) rfl ?_
                  exact L_86 _ (σ r_Md_chain (400 * l + (sS n D e + u))) 1 G (by omega) ⟨hci, by rw [hci]; exact hcb⟩ (by omega) hZ (cn_beg hG) (Nat.lt_succ_self _)
                · show en_wp k_X12_longerChains 80 [some (.inr (.inr (r_Md, 0))), some (.inl l), some (.inl e), some (.inl u), some (.inl (σ r_Md_chain (400 * l + (sS n D e + u)))), none] [] (srl σ [(r_Md_chainThen, G)]) _
                  refine wp_run 3 (pc' := 46) (ls' := [some (.inr (.inr (r_Md, 0))), some (.inl l), some (.inl e), some (.inl (u + 1)), some (.inl (σ r_Md_chain (400 * l + (sS n D e + u)))), none]) (st' := []) (σ' := srl σ [(r_Md_chainThen, G)]) rfl ?_
                  refine wp_sub (l := [some (.inr (.inr (r_Md, 0))), some (.inl l), some (.inl e), some (.inl (u + 1)), none, none]) (And.intro rfl (And.intro rfl (And.intro rfl (And.intro rfl trivial)))) ?_
                  exact ih_46 (u + 1) G (by omega) (by omega) hZ (by have h9 := cn_end (L := (σ r_Md_leads)) (s := s9) (m := D) (l := l) (f := 1) (i := sS n D e + u) (by omega) (.inl (by rw [← hci]; omega)) (cn_beg hG); rw [show sS n D e + (u + 1) = sS n D e + u + 1 by omega]; exact h9) (by omega)
          refine wp_run 2 (pc' := 41) (ls' := [some (.inr (.inr (r_Md, 0))), some (.inl l), some (.inl e), none, none, none]) (st' := [.inl l, .inl e]) (σ' := srl σ [(r_Md_chainThen, G)]) rfl ?_
          refine wp_ic_gt rfl (by omega) (by omega) (fun h_10 => ?_) (fun h_10 => ?_)
          · show en_wp k_X12_longerChains 131 [some (.inr (.inr (r_Md, 0))), some (.inl l), some (.inl e), none, none, none] [] (srl σ [(r_Md_chainThen, G)]) _
            refine wp_run 2 (pc' := 24) (ls' := [some (.inr (.inr (r_Md, 0))), some (.inl (l + 1)), some (.inl e), none, none, none]) (st' := []) (σ' := srl σ [(r_Md_chainThen, G)]) rfl ?_
            refine wp_sub (l := [some (.inr (.inr (r_Md, 0))), some (.inl (l + 1)), none, none, none, none]) (And.intro rfl (And.intro rfl trivial)) ?_
            exact ih_24 (l + 1) G (by omega) hZ (fun t j a b a0 a1 => by rw [hG t j a b a0 a1]; exact (chP_l hO (by omega) (fun x x0 x1 => ch_z s9 l x (by have := sL_lt hO (by omega) x1 (show 0 ≤ l by omega); rw [show e = l + 1 by omega] at x0; omega))).symm) (by omega)
          · show en_wp k_X12_longerChains 44 [some (.inr (.inr (r_Md, 0))), some (.inl l), some (.inl e), none, none, none] [] (srl σ [(r_Md_chainThen, G)]) _
            refine wp_run 2 (pc' := 46) (ls' := [some (.inr (.inr (r_Md, 0))), some (.inl l), some (.inl e), some (.inl 0), none, none]) (st' := []) (σ' := srl σ [(r_Md_chainThen, G)]) rfl ?_
            exact L_46 _ 0 G (by omega) (by omega) hZ (by rw [Int.add_zero]; exact hG) (Nat.lt_succ_self _)
      refine wp_run 5 (pc' := 33) (ls' := [some (.inr (.inr (r_Md, 0))), some (.inl l), none, none, none, none]) (st' := [.inl (σ r_Md_live 0), .inr (.inr (r_Md_degree, 0)), .inl l]) (σ' := srl σ [(r_Md_chainThen, G)]) rfl ?_
      refine wp_iald0 rfl rfl (by omega) ?_
      show en_wp k_X12_longerChains 34 [some (.inr (.inr (r_Md, 0))), some (.inl l), none, none, none, none] [.inl (σ r_Md_degree (σ r_Md_live 0)), .inl l] (srl σ [(r_Md_chainThen, G)]) _
      rw [hD]
      show en_wp k_X12_longerChains 34 [some (.inr (.inr (r_Md, 0))), some (.inl l), none, none, none, none] [.inl D, .inl l] (srl σ [(r_Md_chainThen, G)]) _
      refine wp_ic_ge rfl (by omega) (by omega) (fun h_11 => ?_) (fun h_11 => ?_)
      · show en_wp k_X12_longerChains 137 [some (.inr (.inr (r_Md, 0))), some (.inl l), none, none, none, none] [] (srl σ [(r_Md_chainThen, G)]) _
        refine wp_run 2 (pc' := 139) (ls' := [some (.inr (.inr (r_Md, 0))), some (.inl 0), none, none, none, none]) (st' := []) (σ' := srl σ [(r_Md_chainThen, G)]) rfl ?_
        refine wp_mem (srl_eq (l' := [(r_Md_chain, (σ r_Md_chain)), (r_Md_chainThen, G)]) (And.intro rfl trivial) (And.intro rfl (And.intro rfl trivial))) ?_
        exact L_139 _ 0 (σ r_Md_chain) G (by omega) hZ (fun t j a b a0 a1 => by rw [← chP_fin (s := s9) (l := l) (i := 1) (by have := (sL_b n D j).1; omega)]; exact hG t j a b a0 a1) (seg_0 _ _ _).symm (Nat.lt_succ_self _)
      · show en_wp k_X12_longerChains 37 [some (.inr (.inr (r_Md, 0))), some (.inl l), none, none, none, none] [] (srl σ [(r_Md_chainThen, G)]) _
        refine wp_run 2 (pc' := 39) (ls' := [some (.inr (.inr (r_Md, 0))), some (.inl l), some (.inl 1), none, none, none]) (st' := []) (σ' := srl σ [(r_Md_chainThen, G)]) rfl ?_
        exact L_39 _ 1 G (by omega) (by omega) hZ (by rw [hS1.1]; exact hG) (Nat.lt_succ_self _)
  have L_2 : ∀ (N : Nat) (k : Int) (G : Int → Int), (0 ≤ k ∧ k ≤ 3200) → (G = seg (σ r_Md_chainThen) 0 k (fun _ => 0)) → (3200 - k).toNat < N → en_wp k_X12_longerChains 2 [some (.inr (.inr (r_Md, 0))), some (.inl k), none, none, none, none] [] (srl σ [(r_Md_chainThen, G)]) (fun r σ' => ∃ (f_Md_chain : Int → Int), ∃ (f_Md_chainThen : Int → Int), r = none ∧ σ' = srl σ [(r_Md_chain, f_Md_chain), (r_Md_chainThen, f_Md_chainThen)] ∧ (∀ t j, 0 ≤ t → t ≤ D → 0 ≤ j → j < sS n D (D + 1) → f_Md_chain (400 * t + j) = chS ((σ r_Md_leads)) n D (s9 + 1) t j) ∧ (∀ t j, 0 ≤ t → t ≤ 7 → sS n D (D + 1) ≤ j → j < 400 → f_Md_chain (400 * t + j) = 0)) := by
    intro N
    induction N with
    | zero => intro k G; intros; omega
    | succ N ih_2 =>
      intro k G hk hG0 hN_2
      refine wp_run 2 (pc' := 6) (ls' := [some (.inr (.inr (r_Md, 0))), some (.inl k), none, none, none, none]) (st' := [.inl 3200, .inl k]) (σ' := srl σ [(r_Md_chainThen, G)]) rfl ?_
      refine wp_ic_ge rfl (by omega) (by omega) (fun h_12 => ?_) (fun h_12 => ?_)
      · show en_wp k_X12_longerChains 22 [some (.inr (.inr (r_Md, 0))), some (.inl k), none, none, none, none] [] (srl σ [(r_Md_chainThen, G)]) _
        refine wp_run 2 (pc' := 24) (ls' := [some (.inr (.inr (r_Md, 0))), some (.inl 1), none, none, none, none]) (st' := []) (σ' := srl σ [(r_Md_chainThen, G)]) rfl ?_
        exact L_24 _ 1 G (by omega) (fun t j a b a0 a1 => by rw [hG0, seg_in0 (by omega)]) (fun t j a b a0 a1 => by rw [hG0, seg_in0 (by omega), chP_0 hO]) (Nat.lt_succ_self _)
      · show en_wp k_X12_longerChains 9 [some (.inr (.inr (r_Md, 0))), some (.inl k), none, none, none, none] [] (srl σ [(r_Md_chainThen, G)]) _
        refine wp_run 4 (pc' := 15) (ls' := [some (.inr (.inr (r_Md, 0))), some (.inl k), none, none, none, none]) (st' := [.inl 0, .inl k, .inr (.inr (r_Md_chainThen, 0))]) (σ' := srl σ [(r_Md_chainThen, G)]) rfl ?_
        refine wp_iast0 rfl rfl (by omega) (wp_wr (l2 := [(r_Md_chainThen, (up G k 0))]) rfl ?_)
        show en_wp k_X12_longerChains 16 [some (.inr (.inr (r_Md, 0))), some (.inl k), none, none, none, none] [] (srl σ [(r_Md_chainThen, (up G k 0))]) _
        refine wp_run 2 (pc' := 2) (ls' := [some (.inr (.inr (r_Md, 0))), some (.inl (k + 1)), none, none, none, none]) (st' := []) (σ' := srl σ [(r_Md_chainThen, (up G k 0))]) rfl ?_
        exact ih_2 (k + 1) (up G k 0) (by omega) (by rw [hG0]; exact seg_up0 hk.1 rfl) (by omega)
  refine wp_run 2 (pc' := 2) (ls' := [some (.inr (.inr (r_Md, 0))), some (.inl 0), none, none, none, none]) (st' := []) (σ' := srl σ []) rfl ?_
  refine wp_mem (srl_eq (l' := [(r_Md_chainThen, (σ r_Md_chainThen))]) trivial (And.intro rfl trivial)) ?_
  exact L_2 _ 0 (σ r_Md_chainThen) (by omega) (seg_0 _ _ _).symm (Nat.lt_succ_self _)
theorem ct_X12_chains (σ : en_m) (n : Int) (D : Int) (p : Int) (a : Int) (d : Int) (hI : mI σ n D p) (h1 : i32 a) (h2 : i32 d) (hmo : lMo ((σ r_Md_leads)) n D) (hlead : R01 ((σ r_Md_leads))) : en_ct z_X12_chains [.inr (.inr (r_Md, 0)), .inl a, .inl d] σ (fun r σ' => ∃ (f_Md_chain : Int → Int), ∃ (f_Md_chainThen : Int → Int), ∃ (rr : Int), r = some (.inl rr) ∧ σ' = srl σ [(r_Md_chain, f_Md_chain), (r_Md_chainThen, f_Md_chainThen)] ∧ ((¬ ((0 ≤ a ∧ a ≤ 4) ∧ 0 ≤ d ∧ d ≤ D) ∧ rr = -1) ∨ (((0 ≤ a ∧ a ≤ 4) ∧ 0 ≤ d ∧ d ≤ D) ∧ rr = sm (fun i => chS ((σ r_Md_leads)) n D (a).toNat d i) (sS n D (D + 1)).toNat))) := by
  show en_wp k_X12_chains 0 [some (.inr (.inr (r_Md, 0))), some (.inl a), some (.inl d), none, none] [] (srl σ []) (fun r σ' => ∃ (f_Md_chain : Int → Int), ∃ (f_Md_chainThen : Int → Int), ∃ (rr : Int), r = some (.inl rr) ∧ σ' = srl σ [(r_Md_chain, f_Md_chain), (r_Md_chainThen, f_Md_chainThen)] ∧ ((¬ ((0 ≤ a ∧ a ≤ 4) ∧ 0 ≤ d ∧ d ≤ D) ∧ rr = -1) ∨ (((0 ≤ a ∧ a ≤ 4) ∧ 0 ≤ d ∧ d ≤ D) ∧ rr = sm (fun i => chS ((σ r_Md_leads)) n D (a).toNat d i) (sS n D (D + 1)).toNat)))
  have hI2 := hI
  obtain ⟨hO, hL, hn, hD, hp, hpw, hst⟩ := hI2
  obtain ⟨⟨hO1, hO2⟩, ⟨hO3, hO4⟩, hO5, hO6, hO7, hO8⟩ := id hO
  have hSb := sS_b (k := D + 1) hO
  have hS1 := sS_1 hO
  have hs1 : sW n D 1 = n := by rw [sW_in (by omega) (by omega)]; exact Int.pow_one n
  have L_110 : ∀ (N : Nat) (s : Int) (i : Int) (F : Int → Int) (G : Int → Int), ((0 ≤ a ∧ a ≤ 4) ∧ 0 ≤ d ∧ d ≤ D) → (0 ≤ i ∧ i ≤ 400) → (∀ t j, 0 ≤ t → t ≤ D → 0 ≤ j → j < sS n D (D + 1) → F (400 * t + j) = chS (σ r_Md_leads) n D a.toNat t j) → (∀ t j, 0 ≤ t → t ≤ 7 → sS n D (D + 1) ≤ j → j < 400 → F (400 * t + j) = 0) → (s = sm (fun i => F (400 * d + i)) i.toNat) → (400 - i).toNat < N → en_wp k_X12_chains 110 [some (.inr (.inr (r_Md, 0))), none, some (.inl d), some (.inl s), some (.inl i)] [] (srl σ [(r_Md_chain, F), (r_Md_chainThen, G)]) (fun r σ' => ∃ (f_Md_chain : Int → Int), ∃ (f_Md_chainThen : Int → Int), ∃ (rr : Int), r = some (.inl rr) ∧ σ' = srl σ [(r_Md_chain, f_Md_chain), (r_Md_chainThen, f_Md_chainThen)] ∧ ((¬ ((0 ≤ a ∧ a ≤ 4) ∧ 0 ≤ d ∧ d ≤ D) ∧ rr = -1) ∨ (((0 ≤ a ∧ a ≤ 4) ∧ 0 ≤ d ∧ d ≤ D) ∧ rr = sm (fun i => chS ((σ r_Md_leads)) n D (a).toNat d i) (sS n D (D + 1)).toNat))) := by
    intro N
    induction N with
    | zero => intro s i F G; intros; omega
    | succ N ih_110 =>
      intro s i F G hin hi hF hZ hs hN_110
      refine wp_run 2 (pc' := 115) (ls' := [some (.inr (.inr (r_Md, 0))), none, some (.inl d), some (.inl s), some (.inl i)]) (st' := [.inl 400, .inl i]) (σ' := srl σ [(r_Md_chain, F), (r_Md_chainThen, G)]) rfl ?_
      refine wp_ic_ge rfl (by omega) (by omega) (fun h_1 => ?_) (fun h_1 => ?_)
      · show en_wp k_X12_chains 140 [some (.inr (.inr (r_Md, 0))), none, some (.inl d), some (.inl s), some (.inl i)] [] (srl σ [(r_Md_chain, F), (r_Md_chainThen, G)]) _
        refine wp_run 1 (pc' := 141) (ls' := [some (.inr (.inr (r_Md, 0))), none, some (.inl d), some (.inl s), some (.inl i)]) (st' := [.inl s]) (σ' := srl σ [(r_Md_chain, F), (r_Md_chainThen, G)]) rfl ?_
        exact wp_iret rfl ⟨F, G, s, rfl, srl_eq (l' := [(r_Md_chain, F), (r_Md_chainThen, G)]) (And.intro rfl (And.intro rfl trivial)) (And.intro rfl (And.intro rfl trivial)), (.inr ⟨hin, by rw [hs, show i.toNat = (sS n D (D + 1)).toNat + (400 - sS n D (D + 1)).toNat by omega, sm_cat, sm_zero (400 - sS n D (D + 1)).toNat (fun j a0 a1 => by have := hZ d (sS n D (D + 1) + j) (by omega) (by omega) (by omega) (by omega); rw [show (((sS n D (D + 1)).toNat : Nat) : Int) = sS n D (D + 1) by omega]; exact this), Int.add_zero]; exact sm_ext _ (fun j a0 a1 => hF d j (by omega) (by omega) a0 (by omega))⟩)⟩
      · show en_wp k_X12_chains 118 [some (.inr (.inr (r_Md, 0))), none, some (.inl d), some (.inl s), some (.inl i)] [] (srl σ [(r_Md_chain, F), (r_Md_chainThen, G)]) _
        refine wp_run 8 (pc' := 131) (ls' := [some (.inr (.inr (r_Md, 0))), none, some (.inl d), some (.inl s), some (.inl i)]) (st' := [.inl ((400 * d) + i), .inr (.inr (r_Md_chain, 0)), .inl s]) (σ' := srl σ [(r_Md_chain, F), (r_Md_chainThen, G)]) rfl ?_
        refine wp_iald0 rfl rfl (by omega) ?_
        show en_wp k_X12_chains 132 [some (.inr (.inr (r_Md, 0))), none, some (.inl d), some (.inl s), some (.inl i)] [.inl (F ((400 * d) + i)), .inl s] (srl σ [(r_Md_chain, F), (r_Md_chainThen, G)]) _
        refine wp_run 4 (pc' := 110) (ls' := [some (.inr (.inr (r_Md, 0))), none, some (.inl d), some (.inl (s + (F ((400 * d) + i)))), some (.inl (i + 1))]) (st' := []) (σ' := srl σ [(r_Md_chain, F), (r_Md_chainThen, G)]) rfl ?_
        exact ih_110 (s + (F ((400 * d) + i))) (i + 1) F G hin (by omega) hF hZ (by rw [hs, sm_s _ hi.1]) (by omega)
  have L_90 : ∀ (N : Nat) (k : Int) (F : Int → Int) (G : Int → Int), ((0 ≤ a ∧ a ≤ 4) ∧ 0 ≤ d ∧ d ≤ D) → (0 ≤ k ∧ k ≤ a) → (∀ t j, 0 ≤ t → t ≤ D → 0 ≤ j → j < sS n D (D + 1) → F (400 * t + j) = chS (σ r_Md_leads) n D k.toNat t j) → (∀ t j, 0 ≤ t → t ≤ 7 → sS n D (D + 1) ≤ j → j < 400 → F (400 * t + j) = 0) → (a - k).toNat < N → en_wp k_X12_chains 90 [some (.inr (.inr (r_Md, 0))), some (.inl a), some (.inl d), some (.inl k), none] [] (srl σ [(r_Md_chain, F), (r_Md_chainThen, G)]) (fun r σ' => ∃ (f_Md_chain : Int → Int), ∃ (f_Md_chainThen : Int → Int), ∃ (rr : Int), r = some (.inl rr) ∧ σ' = srl σ [(r_Md_chain, f_Md_chain), (r_Md_chainThen, f_Md_chainThen)] ∧ ((¬ ((0 ≤ a ∧ a ≤ 4) ∧ 0 ≤ d ∧ d ≤ D) ∧ rr = -1) ∨ (((0 ≤ a ∧ a ≤ 4) ∧ 0 ≤ d ∧ d ≤ D) ∧ rr = sm (fun i => chS ((σ r_Md_leads)) n D (a).toNat d i) (sS n D (D + 1)).toNat))) := by
    intro N
    induction N with
    | zero => intro k F G; intros; omega
    | succ N ih_90 =>
      intro k F G hin hk hF hZ hN_90
      refine wp_run 2 (pc' := 92) (ls' := [some (.inr (.inr (r_Md, 0))), some (.inl a), some (.inl d), some (.inl k), none]) (st' := [.inl a, .inl k]) (σ' := srl σ [(r_Md_chain, F), (r_Md_chainThen, G)]) rfl ?_
      refine wp_ic_ge rfl (by omega) (by omega) (fun h_2 => ?_) (fun h_2 => ?_)
      · show en_wp k_X12_chains 105 [some (.inr (.inr (r_Md, 0))), some (.inl a), some (.inl d), some (.inl k), none] [] (srl σ [(r_Md_chain, F), (r_Md_chainThen, G)]) _
        refine wp_run 4 (pc' := 110) (ls' := [some (.inr (.inr (r_Md, 0))), some (.inl a), some (.inl d), some (.inl 0), some (.inl 0)]) (st' := []) (σ' := srl σ [(r_Md_chain, F), (r_Md_chainThen, G)]) rfl ?_
        refine wp_sub (l := [some (.inr (.inr (r_Md, 0))), none, some (.inl d), some (.inl 0), some (.inl 0)]) (And.intro rfl (And.intro rfl (And.intro rfl (And.intro rfl trivial)))) ?_
        exact L_110 _ 0 0 F G hin (by omega) (by rw [← show k = a by omega]; exact hF) hZ rfl (Nat.lt_succ_self _)
      · show en_wp k_X12_chains 95 [some (.inr (.inr (r_Md, 0))), some (.inl a), some (.inl d), some (.inl k), none] [] (srl σ [(r_Md_chain, F), (r_Md_chainThen, G)]) _
        refine wp_run 1 (pc' := 96) (ls' := [some (.inr (.inr (r_Md, 0))), some (.inl a), some (.inl d), some (.inl k), none]) (st' := [.inr (.inr (r_Md, 0))]) (σ' := srl σ [(r_Md_chain, F), (r_Md_chainThen, G)]) rfl ?_
        refine wp_callv rfl rfl rfl rfl (ct_X12_longerChains (srl σ [(r_Md_chain, F), (r_Md_chainThen, G)]) n D p k.toNat hI (by omega) hF hmo hlead) ?_
        rintro _ _ ⟨f_3, f_4, rfl, rfl, p_5, p_6⟩
        have p_5 : ∀ t j, 0 ≤ t → t ≤ D → 0 ≤ j → j < sS n D (D + 1) → f_3 (400 * t + j) = chS ((σ r_Md_leads)) n D (k.toNat + 1) t j := p_5
        have p_6 : ∀ t j, 0 ≤ t → t ≤ 7 → sS n D (D + 1) ≤ j → j < 400 → f_3 (400 * t + j) = 0 := p_6
        refine wp_bk (l2 := [(r_Md_chain, f_3), (r_Md_chainThen, f_4)]) rfl rfl ?_
        show en_wp k_X12_chains 99 [some (.inr (.inr (r_Md, 0))), some (.inl a), some (.inl d), some (.inl k), none] [] (srl σ [(r_Md_chain, f_3), (r_Md_chainThen, f_4)]) _
        have kt := (⟨p_5, p_6⟩ : _ ∧ _)
        refine wp_run 2 (pc' := 90) (ls' := [some (.inr (.inr (r_Md, 0))), some (.inl a), some (.inl d), some (.inl (k + 1)), none]) (st' := []) (σ' := srl σ [(r_Md_chain, f_3), (r_Md_chainThen, f_4)]) rfl ?_
        exact ih_90 (k + 1) f_3 f_4 hin (by omega) (by rw [show (k + 1).toNat = k.toNat + 1 by omega]; exact kt.1) kt.2 (by omega)
  have L_43 : ∀ (N : Nat) (x : Int) (F : Int → Int), ((0 ≤ a ∧ a ≤ 4) ∧ 0 ≤ d ∧ d ≤ D) → (0 ≤ x ∧ x ≤ n) → (∀ t j, 0 ≤ t → t ≤ 7 → 0 ≤ j → j < 400 → F (400 * t + j) = (if t = 1 ∧ 1 ≤ j ∧ j < 1 + x ∧ (σ r_Md_leads) j = 0 then 1 else 0)) → (n - x).toNat < N → en_wp k_X12_chains 43 [some (.inr (.inr (r_Md, 0))), some (.inl a), some (.inl d), some (.inl x), none] [] (srl σ [(r_Md_chain, F)]) (fun r σ' => ∃ (f_Md_chain : Int → Int), ∃ (f_Md_chainThen : Int → Int), ∃ (rr : Int), r = some (.inl rr) ∧ σ' = srl σ [(r_Md_chain, f_Md_chain), (r_Md_chainThen, f_Md_chainThen)] ∧ ((¬ ((0 ≤ a ∧ a ≤ 4) ∧ 0 ≤ d ∧ d ≤ D) ∧ rr = -1) ∨ (((0 ≤ a ∧ a ≤ 4) ∧ 0 ≤ d ∧ d ≤ D) ∧ rr = sm (fun i => chS ((σ r_Md_leads)) n D (a).toNat d i) (sS n D (D + 1)).toNat))) := by
    intro N
    induction N with
    | zero => intro x F; intros; omega
    | succ N ih_43 =>
      intro x F hin hx hF hN_43
      refine wp_run 5 (pc' := 52) (ls' := [some (.inr (.inr (r_Md, 0))), some (.inl a), some (.inl d), some (.inl x), none]) (st' := [.inl (σ r_Md_live 0), .inr (.inr (r_Md_letters, 0)), .inl x]) (σ' := srl σ [(r_Md_chain, F)]) rfl ?_
      refine wp_iald0 rfl rfl (by omega) ?_
      show en_wp k_X12_chains 53 [some (.inr (.inr (r_Md, 0))), some (.inl a), some (.inl d), some (.inl x), none] [.inl (σ r_Md_letters (σ r_Md_live 0)), .inl x] (srl σ [(r_Md_chain, F)]) _
      rw [hn]
      show en_wp k_X12_chains 53 [some (.inr (.inr (r_Md, 0))), some (.inl a), some (.inl d), some (.inl x), none] [.inl n, .inl x] (srl σ [(r_Md_chain, F)]) _
      refine wp_ic_ge rfl (by omega) (by omega) (fun h_7 => ?_) (fun h_7 => ?_)
      · show en_wp k_X12_chains 88 [some (.inr (.inr (r_Md, 0))), some (.inl a), some (.inl d), some (.inl x), none] [] (srl σ [(r_Md_chain, F)]) _
        refine wp_run 2 (pc' := 90) (ls' := [some (.inr (.inr (r_Md, 0))), some (.inl a), some (.inl d), some (.inl 0), none]) (st' := []) (σ' := srl σ [(r_Md_chain, F)]) rfl ?_
        refine wp_mem (srl_eq (l' := [(r_Md_chain, F), (r_Md_chainThen, (σ r_Md_chainThen))]) (And.intro rfl trivial) (And.intro rfl (And.intro rfl trivial))) ?_
        exact L_90 _ 0 F (σ r_Md_chainThen) hin (by omega) (fun t j b0 b1 a0 a1 => by rw [hF t j b0 (by omega) a0 (by omega), show ((0 : Int)).toNat = 0 from rfl, ch_0i hO a0 a1, show x = n by omega]) (fun t j a b a0 a1 => by have hS2 : sS n D 2 ≤ sS n D (D + 1) := sS_mono hO1 (by omega); have hS3 : sS n D (1 + 1) = sS n D 1 + sW n D 1 := sS_succ (by decide); have hS4 : sS n D 2 = sS n D (1 + 1) := rfl; rw [hF t j a b (by omega) a1, if_neg (by omega)]) (Nat.lt_succ_self _)
      · show en_wp k_X12_chains 56 [some (.inr (.inr (r_Md, 0))), some (.inl a), some (.inl d), some (.inl x), none] [] (srl σ [(r_Md_chain, F)]) _
        refine wp_run 3 (pc' := 59) (ls' := [some (.inr (.inr (r_Md, 0))), some (.inl a), some (.inl d), some (.inl x), none]) (st' := [.inl x, .inl 1, .inr (.inr (r_Md, 0))]) (σ' := srl σ [(r_Md_chain, F)]) rfl ?_
        refine wp_fnv (v := .inl (bI ((σ r_Md_leads) (sS n D 1 + x) = 0))) rfl rfl rfl rfl (ct_X12_isNormal (srl σ [(r_Md_chain, F)]) n D p 1 x hI (by omega) (by omega) hlead) ?_
        show en_wp k_X12_chains 62 [some (.inr (.inr (r_Md, 0))), some (.inl a), some (.inl d), some (.inl x), none] [.inl (bI ((σ r_Md_leads) (sS n D 1 + x) = 0))] (srl σ [(r_Md_chain, F)]) _
        refine wp_if_eqb rfl (fun h_8 => ?_) (fun h_8 => ?_)
        · have hLx : ¬ (σ r_Md_leads) (1 + x) = 0 := by rw [← hS1.1]; exact h_8
          show en_wp k_X12_chains 82 [some (.inr (.inr (r_Md, 0))), some (.inl a), some (.inl d), some (.inl x), none] [] (srl σ [(r_Md_chain, F)]) _
          refine wp_run 2 (pc' := 43) (ls' := [some (.inr (.inr (r_Md, 0))), some (.inl a), some (.inl d), some (.inl (x + 1)), none]) (st' := []) (σ' := srl σ [(r_Md_chain, F)]) rfl ?_
          exact ih_43 (x + 1) F hin (by omega) (fun t j a b a0 a1 => by rw [hF t j a b a0 a1]; by_cases g8 : t = 1 ∧ 1 ≤ j ∧ j < 1 + x ∧ (σ r_Md_leads) j = 0; rw [if_pos g8, if_pos ⟨g8.1, g8.2.1, by omega, g8.2.2.2⟩]; rw [if_neg g8, if_neg (fun q => g8 ⟨q.1, q.2.1, by have q1 := q.2.2.1; rcases Int.lt_or_eq_of_le (show j ≤ 1 + x by omega) with h5 | h5; exact h5; rw [h5] at q; exact absurd q.2.2.2 hLx, q.2.2.2⟩)]) (by omega)
        · have hLx : (σ r_Md_leads) (1 + x) = 0 := by rw [← hS1.1]; exact h_8
          show en_wp k_X12_chains 65 [some (.inr (.inr (r_Md, 0))), some (.inl a), some (.inl d), some (.inl x), none] [] (srl σ [(r_Md_chain, F)]) _
          refine wp_run 5 (pc' := 74) (ls' := [some (.inr (.inr (r_Md, 0))), some (.inl a), some (.inl d), some (.inl x), none]) (st' := [.inl 1, .inr (.inr (r_Md, 0)), .inl 400, .inr (.inr (r_Md_chain, 0))]) (σ' := srl σ [(r_Md_chain, F)]) rfl ?_
          refine wp_fnv (v := .inl (sS n D 1)) rfl rfl rfl rfl (ct_X12_start (srl σ [(r_Md_chain, F)]) n D p 1 hI (by omega)) ?_
          show en_wp k_X12_chains 77 [some (.inr (.inr (r_Md, 0))), some (.inl a), some (.inl d), some (.inl x), none] [.inl (sS n D 1), .inl 400, .inr (.inr (r_Md_chain, 0))] (srl σ [(r_Md_chain, F)]) _
          rw [hS1.1]
          show en_wp k_X12_chains 77 [some (.inr (.inr (r_Md, 0))), some (.inl a), some (.inl d), some (.inl x), none] [.inl 1, .inl 400, .inr (.inr (r_Md_chain, 0))] (srl σ [(r_Md_chain, F)]) _
          have q_9 : 0 ≤ sS n D 1 ∧ sS n D 1 ≤ 364 := sS_b hO
          refine wp_run 4 (pc' := 81) (ls' := [some (.inr (.inr (r_Md, 0))), some (.inl a), some (.inl d), some (.inl x), none]) (st' := [.inl 1, .inl (401 + x), .inr (.inr (r_Md_chain, 0))]) (σ' := srl σ [(r_Md_chain, F)]) rfl ?_
          refine wp_iast0 rfl rfl (by omega) (wp_wr (l2 := [(r_Md_chain, (up F (401 + x) 1))]) rfl ?_)
          show en_wp k_X12_chains 82 [some (.inr (.inr (r_Md, 0))), some (.inl a), some (.inl d), some (.inl x), none] [] (srl σ [(r_Md_chain, (up F (401 + x) 1))]) _
          refine wp_run 2 (pc' := 43) (ls' := [some (.inr (.inr (r_Md, 0))), some (.inl a), some (.inl d), some (.inl (x + 1)), none]) (st' := []) (σ' := srl σ [(r_Md_chain, (up F (401 + x) 1))]) rfl ?_
          exact ih_43 (x + 1) (up F (401 + x) 1) hin (by omega) (fun t j a b a0 a1 => by by_cases g9 : t = 1 ∧ j = 1 + x; rw [g9.1, g9.2, if_pos ⟨rfl, by omega, by omega, hLx⟩, show 400 * 1 + (1 + x) = 401 + x by omega, up_eq]; rw [up_ne (by omega), hF t j a b a0 a1]; by_cases g8 : t = 1 ∧ 1 ≤ j ∧ j < 1 + x ∧ (σ r_Md_leads) j = 0; rw [if_pos g8, if_pos ⟨g8.1, g8.2.1, by omega, g8.2.2.2⟩]; rw [if_neg g8, if_neg (fun q => g8 ⟨q.1, q.2.1, by have := q.2.2.1; omega, q.2.2.2⟩)]) (by omega)
  have L_21 : ∀ (N : Nat) (k : Int) (F : Int → Int), ((0 ≤ a ∧ a ≤ 4) ∧ 0 ≤ d ∧ d ≤ D) → (0 ≤ k ∧ k ≤ 3200) → (F = seg (σ r_Md_chain) 0 k (fun _ => 0)) → (3200 - k).toNat < N → en_wp k_X12_chains 21 [some (.inr (.inr (r_Md, 0))), some (.inl a), some (.inl d), some (.inl k), none] [] (srl σ [(r_Md_chain, F)]) (fun r σ' => ∃ (f_Md_chain : Int → Int), ∃ (f_Md_chainThen : Int → Int), ∃ (rr : Int), r = some (.inl rr) ∧ σ' = srl σ [(r_Md_chain, f_Md_chain), (r_Md_chainThen, f_Md_chainThen)] ∧ ((¬ ((0 ≤ a ∧ a ≤ 4) ∧ 0 ≤ d ∧ d ≤ D) ∧ rr = -1) ∨ (((0 ≤ a ∧ a ≤ 4) ∧ 0 ≤ d ∧ d ≤ D) ∧ rr = sm (fun i => chS ((σ r_Md_leads)) n D (a).toNat d i) (sS n D (D + 1)).toNat))) := by
    intro N
    induction N with
    | zero => intro k F; intros; omega
    | succ N ih_21 =>
      intro k F hin hk hF0 hN_21
      refine wp_run 2 (pc' := 25) (ls' := [some (.inr (.inr (r_Md, 0))), some (.inl a), some (.inl d), some (.inl k), none]) (st' := [.inl 3200, .inl k]) (σ' := srl σ [(r_Md_chain, F)]) rfl ?_
      refine wp_ic_ge rfl (by omega) (by omega) (fun h_10 => ?_) (fun h_10 => ?_)
      · show en_wp k_X12_chains 41 [some (.inr (.inr (r_Md, 0))), some (.inl a), some (.inl d), some (.inl k), none] [] (srl σ [(r_Md_chain, F)]) _
        refine wp_run 2 (pc' := 43) (ls' := [some (.inr (.inr (r_Md, 0))), some (.inl a), some (.inl d), some (.inl 0), none]) (st' := []) (σ' := srl σ [(r_Md_chain, F)]) rfl ?_
        exact L_43 _ 0 F hin (by omega) (fun t j a b a0 a1 => by rw [hF0, seg_in0 (by omega), if_neg (by omega)]) (Nat.lt_succ_self _)
      · show en_wp k_X12_chains 28 [some (.inr (.inr (r_Md, 0))), some (.inl a), some (.inl d), some (.inl k), none] [] (srl σ [(r_Md_chain, F)]) _
        refine wp_run 4 (pc' := 34) (ls' := [some (.inr (.inr (r_Md, 0))), some (.inl a), some (.inl d), some (.inl k), none]) (st' := [.inl 0, .inl k, .inr (.inr (r_Md_chain, 0))]) (σ' := srl σ [(r_Md_chain, F)]) rfl ?_
        refine wp_iast0 rfl rfl (by omega) (wp_wr (l2 := [(r_Md_chain, (up F k 0))]) rfl ?_)
        show en_wp k_X12_chains 35 [some (.inr (.inr (r_Md, 0))), some (.inl a), some (.inl d), some (.inl k), none] [] (srl σ [(r_Md_chain, (up F k 0))]) _
        refine wp_run 2 (pc' := 21) (ls' := [some (.inr (.inr (r_Md, 0))), some (.inl a), some (.inl d), some (.inl (k + 1)), none]) (st' := []) (σ' := srl σ [(r_Md_chain, (up F k 0))]) rfl ?_
        exact ih_21 (k + 1) (up F k 0) hin (by omega) (by rw [hF0]; exact seg_up0 hk.1 rfl) (by omega)
  refine wp_run 3 (pc' := 3) (ls' := [some (.inr (.inr (r_Md, 0))), some (.inl a), some (.inl d), none, none]) (st' := [.inl 4, .inl 0, .inl a]) (σ' := srl σ []) rfl ?_
  refine wp_fns (v := .inl (bI (0 ≤ a ∧ a ≤ 4))) rfl rfl rfl rfl rfl (ct_X12_in σ a 0 4 (by omega) (by omega) (by omega)) ?_
  show en_wp k_X12_chains 6 [some (.inr (.inr (r_Md, 0))), some (.inl a), some (.inl d), none, none] [.inl (bI (0 ≤ a ∧ a ≤ 4))] (srl σ []) _
  refine wp_if_eqb rfl (fun h_11 => ?_) (fun h_11 => ?_)
  · show en_wp k_X12_chains 17 [some (.inr (.inr (r_Md, 0))), some (.inl a), some (.inl d), none, none] [] (srl σ []) _
    refine wp_run 1 (pc' := 18) (ls' := [some (.inr (.inr (r_Md, 0))), some (.inl a), some (.inl d), none, none]) (st' := [.inl (-1)]) (σ' := srl σ []) rfl ?_
    exact wp_iret rfl ⟨(σ r_Md_chain), (σ r_Md_chainThen), (-1), rfl, srl_eq (l' := [(r_Md_chain, σ r_Md_chain), (r_Md_chainThen, σ r_Md_chainThen)]) trivial (And.intro rfl (And.intro rfl trivial)), (.inl ⟨by omega, rfl⟩)⟩
  · show en_wp k_X12_chains 9 [some (.inr (.inr (r_Md, 0))), some (.inl a), some (.inl d), none, none] [] (srl σ []) _
    refine wp_run 2 (pc' := 11) (ls' := [some (.inr (.inr (r_Md, 0))), some (.inl a), some (.inl d), none, none]) (st' := [.inl d, .inr (.inr (r_Md, 0))]) (σ' := srl σ []) rfl ?_
    refine wp_fnv (v := .inl (bI (0 ≤ d ∧ d ≤ D))) rfl rfl rfl rfl (ct_X12_isDegree σ n D p d hI (by omega)) ?_
    show en_wp k_X12_chains 14 [some (.inr (.inr (r_Md, 0))), some (.inl a), some (.inl d), none, none] [.inl (bI (0 ≤ d ∧ d ≤ D))] (srl σ []) _
    refine wp_if_neb rfl (fun h_12 => ?_) (fun h_12 => ?_)
    · show en_wp k_X12_chains 19 [some (.inr (.inr (r_Md, 0))), some (.inl a), some (.inl d), none, none] [] (srl σ []) _
      refine wp_run 2 (pc' := 21) (ls' := [some (.inr (.inr (r_Md, 0))), some (.inl a), some (.inl d), some (.inl 0), none]) (st' := []) (σ' := srl σ []) rfl ?_
      refine wp_mem (srl_eq (l' := [(r_Md_chain, (σ r_Md_chain))]) trivial (And.intro rfl trivial)) ?_
      exact L_21 _ 0 (σ r_Md_chain) (by omega) (by omega) (seg_0 _ _ _).symm (Nat.lt_succ_self _)
    · show en_wp k_X12_chains 17 [some (.inr (.inr (r_Md, 0))), some (.inl a), some (.inl d), none, none] [] (srl σ []) _
      refine wp_run 1 (pc' := 18) (ls' := [some (.inr (.inr (r_Md, 0))), some (.inl a), some (.inl d), none, none]) (st' := [.inl (-1)]) (σ' := srl σ []) rfl ?_
      exact wp_iret rfl ⟨(σ r_Md_chain), (σ r_Md_chainThen), (-1), rfl, srl_eq (l' := [(r_Md_chain, σ r_Md_chain), (r_Md_chainThen, σ r_Md_chainThen)]) trivial (And.intro rfl (And.intro rfl trivial)), (.inl ⟨by omega, rfl⟩)⟩
