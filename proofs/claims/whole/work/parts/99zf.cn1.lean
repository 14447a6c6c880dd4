/-! contracts of methods, walked (written by wip/whole/walk.py from the annotations ann_m44) -/
theorem ct_X12_endsOnce (σ : en_m) (n : Int) (D : Int) (p : Int) (d : Int) (w : Int) (hI : mI σ n D p) (hd : 1 ≤ d ∧ d ≤ D) (hw : 0 ≤ w ∧ w < sW n D d) (hmo : lMo ((σ r_Md_leads)) n D) (hlead : R01 ((σ r_Md_leads))) : en_ct z_X12_endsOnce [.inr (.inr (r_Md, 0)), .inl d, .inl w] σ (fun r σ' => ∃ (rr : Int), r = some (.inl rr) ∧ σ' = srl σ [] ∧ ((rr = 1 ∧ okE ((σ r_Md_leads)) n D d w) ∨ (rr = 0 ∧ ¬ (okE ((σ r_Md_leads)) n D d w)))) := by
  show en_wp k_X12_endsOnce 0 [some (.inr (.inr (r_Md, 0))), some (.inl d), some (.inl w), none, none, none, none] [] (srl σ []) (fun r σ' => ∃ (rr : Int), r = some (.inl rr) ∧ σ' = srl σ [] ∧ ((rr = 1 ∧ okE ((σ r_Md_leads)) n D d w) ∨ (rr = 0 ∧ ¬ (okE ((σ r_Md_leads)) n D d w))))
  have hI2 := hI
  obtain ⟨hO, hL, hn, hD, hp, hpw, hst⟩ := hI2
  obtain ⟨⟨hO1, hO2⟩, ⟨hO3, hO4⟩, hO5, hO6, hO7, hO8⟩ := id hO
  have hWd := sW_b (k := d) hO
  have L_5 : ∀ (N : Nat) (g : Int) (b : Int), (1 ≤ b ∧ b ≤ d + 1) → (g = 0 ∨ g = 1) → (eoI (σ r_Md_leads) n D d w g b 0) → (d + 1 - b).toNat < N → en_wp k_X12_endsOnce 5 [some (.inr (.inr (r_Md, 0))), some (.inl d), some (.inl w), some (.inl g), some (.inl b), none, none] [] (srl σ []) (fun r σ' => ∃ (rr : Int), r = some (.inl rr) ∧ σ' = srl σ [] ∧ ((rr = 1 ∧ okE ((σ r_Md_leads)) n D d w) ∨ (rr = 0 ∧ ¬ (okE ((σ r_Md_leads)) n D d w)))) := by
    intro N
    induction N with
    | zero => intro g b; intros; omega
    | succ N ih_5 =>
      intro g b hb hg hI9 hN_5
      have L_14 : ∀ (N : Nat) (g : Int) (a : Int), (b ≤ d) → (0 ≤ a ∧ a ≤ b) → (g = 0 ∨ g = 1) → (eoI (σ r_Md_leads) n D d w g b a) → (b - a).toNat < N → en_wp k_X12_endsOnce 14 [some (.inr (.inr (r_Md, 0))), some (.inl d), some (.inl w), some (.inl g), some (.inl b), some (.inl a), none] [] (srl σ []) (fun r σ' => ∃ (rr : Int), r = some (.inl rr) ∧ σ' = srl σ [] ∧ ((rr = 1 ∧ okE ((σ r_Md_leads)) n D d w) ∨ (rr = 0 ∧ ¬ (okE ((σ r_Md_leads)) n D d w)))) := by
        intro N
        induction N with
        | zero => intro g a; intros; omega
        | succ N ih_14 =>
          intro g a hbd ha hg hI9 hN_14
          refine wp_run 2 (pc' := 18) (ls' := [some (.inr (.inr (r_Md, 0))), some (.inl d), some (.inl w), some (.inl g), some (.inl b), some (.inl a), none]) (st' := [.inl b, .inl a]) (σ' := srl σ []) rfl ?_
          refine wp_ic_ge rfl (by omega) (by omega) (fun h_1 => ?_) (fun h_1 => ?_)
          · show en_wp k_X12_endsOnce 80 [some (.inr (.inr (r_Md, 0))), some (.inl d), some (.inl w), some (.inl g), some (.inl b), some (.inl a), none] [] (srl σ []) _
            refine wp_run 2 (pc' := 5) (ls' := [some (.inr (.inr (r_Md, 0))), some (.inl d), some (.inl w), some (.inl g), some (.inl (b + 1)), some (.inl a), none]) (st' := []) (σ' := srl σ []) rfl ?_
            refine wp_sub (l := [some (.inr (.inr (r_Md, 0))), some (.inl d), some (.inl w), some (.inl g), some (.inl (b + 1)), none, none]) (And.intro rfl (And.intro rfl (And.intro rfl (And.intro rfl (And.intro rfl trivial))))) ?_
            exact ih_5 g (b + 1) (by omega) (by omega) (eo_row hI9 (by omega)) (by omega)
          · show en_wp k_X12_endsOnce 21 [some (.inr (.inr (r_Md, 0))), some (.inl d), some (.inl w), some (.inl g), some (.inl b), some (.inl a), none] [] (srl σ []) _
            refine wp_run 5 (pc' := 27) (ls' := [some (.inr (.inr (r_Md, 0))), some (.inl d), some (.inl w), some (.inl g), some (.inl b), some (.inl a), none]) (st' := [.inl (d - b), .inr (.inr (r_Md, 0)), .inl w]) (σ' := srl σ []) rfl ?_
            refine wp_fnv (v := .inl (sW n D (d - b))) rfl rfl rfl rfl (ct_X12_wide σ n D p (d - b) hI (by omega)) ?_
            show en_wp k_X12_endsOnce 30 [some (.inr (.inr (r_Md, 0))), some (.inl d), some (.inl w), some (.inl g), some (.inl b), some (.inl a), none] [.inl (sW n D (d - b)), .inl w] (srl σ []) _
            have q_2 : 0 ≤ sW n D (d - b) ∧ sW n D (d - b) ≤ 256 := sW_b hO
            have hp1 := sW_p hO (e := d - b) (by omega) (by omega) hw
            refine wp_idivp rfl (by omega) (by omega) ?_
            show en_wp k_X12_endsOnce 31 [some (.inr (.inr (r_Md, 0))), some (.inl d), some (.inl w), some (.inl g), some (.inl b), some (.inl a), none] [.inl (w / (sW n D (d - b)))] (srl σ []) _
            refine wp_run 4 (pc' := 37) (ls' := [some (.inr (.inr (r_Md, 0))), some (.inl d), some (.inl w), some (.inl g), some (.inl b), some (.inl a), none]) (st' := [.inl (b - a), .inr (.inr (r_Md, 0)), .inl (w / (sW n D (d - b)))]) (σ' := srl σ []) rfl ?_
            refine wp_fnv (v := .inl (sW n D (b - a))) rfl rfl rfl rfl (ct_X12_wide σ n D p (b - a) hI (by omega)) ?_
            show en_wp k_X12_endsOnce 40 [some (.inr (.inr (r_Md, 0))), some (.inl d), some (.inl w), some (.inl g), some (.inl b), some (.inl a), none] [.inl (sW n D (b - a)), .inl (w / (sW n D (d - b)))] (srl σ []) _
            have q_3 : 0 ≤ sW n D (b - a) ∧ sW n D (b - a) ≤ 256 := sW_b hO
            have hp2 := sW_p hO (e := b - a) (by omega) (by omega) hw
            have hq1 := Int.ediv_nonneg hw.1 (show 0 ≤ sW n D (d - b) by omega)
            have hq2 := Int.ediv_le_self (b := sW n D (d - b)) hw.1
            have hsb := sbW_b hO ha.1 ha.2 hbd hd.2 hw
            refine wp_iremp rfl (by omega) (by omega) ?_
            show en_wp k_X12_endsOnce 41 [some (.inr (.inr (r_Md, 0))), some (.inl d), some (.inl w), some (.inl g), some (.inl b), some (.inl a), none] [.inl ((w / (sW n D (d - b))) % (sW n D (b - a)))] (srl σ []) _
            skip
            show en_wp k_X12_endsOnce 41 [some (.inr (.inr (r_Md, 0))), some (.inl d), some (.inl w), some (.inl g), some (.inl b), some (.inl a), none] [.inl (sbW n D d w a b)] (srl σ []) _
            refine wp_run 6 (pc' := 51) (ls' := [some (.inr (.inr (r_Md, 0))), some (.inl d), some (.inl w), some (.inl g), some (.inl b), some (.inl a), some (.inl (sbW n D d w a b))]) (st' := [.inl (sbW n D d w a b), .inl (b - a), .inr (.inr (r_Md, 0))]) (σ' := srl σ []) rfl ?_
            refine wp_fnv (v := .inl (bI (isB ((σ r_Md_leads)) n D (b - a) (sbW n D d w a b)))) rfl rfl rfl rfl (ct_X12_isBase σ n D p (b - a) (sbW n D d w a b) hI (by omega) (by omega) hlead) ?_
            show en_wp k_X12_endsOnce 54 [some (.inr (.inr (r_Md, 0))), some (.inl d), some (.inl w), some (.inl g), some (.inl b), some (.inl a), some (.inl (sbW n D d w a b))] [.inl (bI (isB ((σ r_Md_leads)) n D (b - a) (sbW n D d w a b)))] (srl σ []) _
            refine wp_if_neb rfl (fun h_4 => ?_) (fun h_4 => ?_)
            · show en_wp k_X12_endsOnce 60 [some (.inr (.inr (r_Md, 0))), some (.inl d), some (.inl w), some (.inl g), some (.inl b), some (.inl a), some (.inl (sbW n D d w a b))] [] (srl σ []) _
              refine wp_run 2 (pc' := 63) (ls' := [some (.inr (.inr (r_Md, 0))), some (.inl d), some (.inl w), some (.inl g), some (.inl b), some (.inl a), some (.inl (sbW n D d w a b))]) (st' := [.inl d, .inl b]) (σ' := srl σ []) rfl ?_
              refine wp_ic_lt rfl (by omega) (by omega) (fun h_5 => ?_) (fun h_5 => ?_)
              · show en_wp k_X12_endsOnce 70 [some (.inr (.inr (r_Md, 0))), some (.inl d), some (.inl w), some (.inl g), some (.inl b), some (.inl a), some (.inl (sbW n D d w a b))] [] (srl σ []) _
                refine wp_run 1 (pc' := 71) (ls' := [some (.inr (.inr (r_Md, 0))), some (.inl d), some (.inl w), some (.inl g), some (.inl b), some (.inl a), some (.inl (sbW n D d w a b))]) (st' := [.inl 0]) (σ' := srl σ []) rfl ?_
                exact wp_zret rfl (.inl rfl) ⟨0, rfl, srl_eq (l' := []) trivial trivial, (.inr ⟨rfl, eo_bad hO hmo hd hw hI9 (by omega) (by omega) (by assumption) (by omega)⟩)⟩
              · show en_wp k_X12_endsOnce 66 [some (.inr (.inr (r_Md, 0))), some (.inl d), some (.inl w), some (.inl g), some (.inl b), some (.inl a), some (.inl (sbW n D d w a b))] [] (srl σ []) _
                refine wp_run 1 (pc' := 67) (ls' := [some (.inr (.inr (r_Md, 0))), some (.inl d), some (.inl w), some (.inl g), some (.inl b), some (.inl a), some (.inl (sbW n D d w a b))]) (st' := [.inl g]) (σ' := srl σ []) rfl ?_
                refine wp_if_eq rfl (by omega) (fun h_6 => ?_) (fun h_6 => ?_)
                · show en_wp k_X12_endsOnce 72 [some (.inr (.inr (r_Md, 0))), some (.inl d), some (.inl w), some (.inl g), some (.inl b), some (.inl a), some (.inl (sbW n D d w a b))] [] (srl σ []) _
                  refine wp_run 4 (pc' := 14) (ls' := [some (.inr (.inr (r_Md, 0))), some (.inl d), some (.inl w), some (.inl 1), some (.inl b), some (.inl (a + 1)), some (.inl (sbW n D d w a b))]) (st' := []) (σ' := srl σ []) rfl ?_
                  refine wp_sub (l := [some (.inr (.inr (r_Md, 0))), some (.inl d), some (.inl w), some (.inl 1), some (.inl b), some (.inl (a + 1)), none]) (And.intro rfl (And.intro rfl (And.intro rfl (And.intro rfl (And.intro rfl (And.intro rfl trivial)))))) ?_
                  exact ih_14 1 (a + 1) (by omega) (by omega) (by omega) (eo_yes hI9 (by omega) (by omega) (by omega) (by assumption)) (by omega)
                · show en_wp k_X12_endsOnce 70 [some (.inr (.inr (r_Md, 0))), some (.inl d), some (.inl w), some (.inl g), some (.inl b), some (.inl a), some (.inl (sbW n D d w a b))] [] (srl σ []) _
                  refine wp_run 1 (pc' := 71) (ls' := [some (.inr (.inr (r_Md, 0))), some (.inl d), some (.inl w), some (.inl g), some (.inl b), some (.inl a), some (.inl (sbW n D d w a b))]) (st' := [.inl 0]) (σ' := srl σ []) rfl ?_
                  exact wp_zret rfl (.inl rfl) ⟨0, rfl, srl_eq (l' := []) trivial trivial, (.inr ⟨rfl, eo_bad hO hmo hd hw hI9 (by omega) (by omega) (by assumption) (by omega)⟩)⟩
            · show en_wp k_X12_endsOnce 57 [some (.inr (.inr (r_Md, 0))), some (.inl d), some (.inl w), some (.inl g), some (.inl b), some (.inl a), some (.inl (sbW n D d w a b))] [] (srl σ []) _
              refine wp_run 3 (pc' := 14) (ls' := [some (.inr (.inr (r_Md, 0))), some (.inl d), some (.inl w), some (.inl g), some (.inl b), some (.inl (a + 1)), some (.inl (sbW n D d w a b))]) (st' := []) (σ' := srl σ []) rfl ?_
              refine wp_sub (l := [some (.inr (.inr (r_Md, 0))), some (.inl d), some (.inl w), some (.inl g), some (.inl b), some (.inl (a + 1)), none]) (And.intro rfl (And.intro rfl (And.intro rfl (And.intro rfl (And.intro rfl (And.intro rfl trivial)))))) ?_
              exact ih_14 g (a + 1) (by omega) (by omega) (by omega) (eo_no hI9 (by assumption)) (by omega)
      refine wp_run 2 (pc' := 8) (ls' := [some (.inr (.inr (r_Md, 0))), some (.inl d), some (.inl w), some (.inl g), some (.inl b), none, none]) (st' := [.inl d, .inl b]) (σ' := srl σ []) rfl ?_
      refine wp_ic_gt rfl (by omega) (by omega) (fun h_7 => ?_) (fun h_7 => ?_)
      · show en_wp k_X12_endsOnce 86 [some (.inr (.inr (r_Md, 0))), some (.inl d), some (.inl w), some (.inl g), some (.inl b), none, none] [] (srl σ []) _
        refine wp_run 1 (pc' := 87) (ls' := [some (.inr (.inr (r_Md, 0))), some (.inl d), some (.inl w), some (.inl g), some (.inl b), none, none]) (st' := [.inl g]) (σ' := srl σ []) rfl ?_
        exact wp_zret rfl (by omega) ⟨g, rfl, srl_eq (l' := []) trivial trivial, (eo_fin hO hmo hd hw hI9 (by omega))⟩
      · show en_wp k_X12_endsOnce 11 [some (.inr (.inr (r_Md, 0))), some (.inl d), some (.inl w), some (.inl g), some (.inl b), none, none] [] (srl σ []) _
        refine wp_run 2 (pc' := 14) (ls' := [some (.inr (.inr (r_Md, 0))), some (.inl d), some (.inl w), some (.inl g), some (.inl b), some (.inl 0), none]) (st' := []) (σ' := srl σ []) rfl ?_
        exact L_14 _ g 0 (by omega) (by omega) (by omega) hI9 (Nat.lt_succ_self _)
  refine wp_run 4 (pc' := 5) (ls' := [some (.inr (.inr (r_Md, 0))), some (.inl d), some (.inl w), some (.inl 0), some (.inl 1), none, none]) (st' := []) (σ' := srl σ []) rfl ?_
  exact L_5 _ 0 1 (by omega) (by omega) eo_0 (Nat.lt_succ_self _)
theorem ct_X12_step (σ : en_m) (n : Int) (D : Int) (p : Int) (l : Int) (e : Int) (u : Int) (f : Int) (c : Int) (hI : mI σ n D p) (he : 1 ≤ e ∧ e + f ≤ D) (hu : 0 ≤ u ∧ u < sW n D e) (hf : 1 ≤ f) (hl : 0 ≤ l ∧ l + f ≤ 7) (hmo : lMo ((σ r_Md_leads)) n D) (hlead : R01 ((σ r_Md_leads))) : en_ct z_X12_step [.inr (.inr (r_Md, 0)), .inl l, .inl e, .inl u, .inl f, .inl c] σ (fun r σ' => ∃ (f_Md_chainThen : Int → Int), r = none ∧ σ' = srl σ [(r_Md_chainThen, f_Md_chainThen)] ∧ (∀ v, 0 ≤ v → v < sW n D f → f_Md_chainThen (400 * (l + f) + (sS n D f + v)) = (σ r_Md_chainThen) (400 * (l + f) + (sS n D f + v)) + (if okC ((σ r_Md_leads)) n D (sS n D e + u) (sS n D f + v) then c else 0)) ∧ (∀ x, (x < 400 * (l + f) + sS n D f ∨ 400 * (l + f) + (sS n D f + sW n D f) ≤ x) → f_Md_chainThen x = (σ r_Md_chainThen) x)) := by
  show en_wp k_X12_step 0 [some (.inr (.inr (r_Md, 0))), some (.inl l), some (.inl e), some (.inl u), some (.inl f), some (.inl c), none] [] (srl σ []) (fun r σ' => ∃ (f_Md_chainThen : Int → Int), r = none ∧ σ' = srl σ [(r_Md_chainThen, f_Md_chainThen)] ∧ (∀ v, 0 ≤ v → v < sW n D f → f_Md_chainThen (400 * (l + f) + (sS n D f + v)) = (σ r_Md_chainThen) (400 * (l + f) + (sS n D f + v)) + (if okC ((σ r_Md_leads)) n D (sS n D e + u) (sS n D f + v) then c else 0)) ∧ (∀ x, (x < 400 * (l + f) + sS n D f ∨ 400 * (l + f) + (sS n D f + sW n D f) ≤ x) → f_Md_chainThen x = (σ r_Md_chainThen) x))
  have hI2 := hI
  obtain ⟨hO, hL, hn, hD, hp, hpw, hst⟩ := hI2
  obtain ⟨⟨hO1, hO2⟩, ⟨hO3, hO4⟩, hO5, hO6, hO7, hO8⟩ := id hO
  have hWf := sW_b (k := f) hO
  have hWe := sW_b (k := e) hO
  have hSf := sS_b (k := f) hO
  have hSf1 := sS_b (k := f + 1) hO
  have hSfw : sS n D (f + 1) = sS n D f + sW n D f := sS_succ (by omega)
  have hef : sW n D (e + f) = sW n D e * sW n D f := sW_add (by omega) (by omega) (by omega)
  have L_3 : ∀ (N : Nat) (v : Int) (G : Int → Int), (0 ≤ v ∧ v ≤ sW n D f) → (∀ y, 0 ≤ y → y < sW n D f → G (400 * (l + f) + (sS n D f + y)) = σ r_Md_chainThen (400 * (l + f) + (sS n D f + y)) + (if y < v ∧ okC (σ r_Md_leads) n D (sS n D e + u) (sS n D f + y) then c else 0)) → (∀ x, (x < 400 * (l + f) + sS n D f ∨ 400 * (l + f) + (sS n D f + sW n D f) ≤ x) → G x = σ r_Md_chainThen x) → (sW n D f - v).toNat < N → en_wp k_X12_step 3 [some (.inr (.inr (r_Md, 0))), some (.inl l), some (.inl e), some (.inl u), some (.inl f), some (.inl c), some (.inl v)] [] (srl σ [(r_Md_chainThen, G)]) (fun r σ' => ∃ (f_Md_chainThen : Int → Int), r = none ∧ σ' = srl σ [(r_Md_chainThen, f_Md_chainThen)] ∧ (∀ v, 0 ≤ v → v < sW n D f → f_Md_chainThen (400 * (l + f) + (sS n D f + v)) = (σ r_Md_chainThen) (400 * (l + f) + (sS n D f + v)) + (if okC ((σ r_Md_leads)) n D (sS n D e + u) (sS n D f + v) then c else 0)) ∧ (∀ x, (x < 400 * (l + f) + sS n D f ∨ 400 * (l + f) + (sS n D f + sW n D f) ≤ x) → f_Md_chainThen x = (σ r_Md_chainThen) x)) := by
    intro N
    induction N with
    | zero => intro v G; intros; omega
    | succ N ih_3 =>
      intro v G hv hG1 hG2 hN_3
      refine wp_run 3 (pc' := 8) (ls' := [some (.inr (.inr (r_Md, 0))), some (.inl l), some (.inl e), some (.inl u), some (.inl f), some (.inl c), some (.inl v)]) (st' := [.inl f, .inr (.inr (r_Md, 0)), .inl v]) (σ' := srl σ [(r_Md_chainThen, G)]) rfl ?_
      refine wp_fnv (v := .inl (sW n D f)) rfl rfl rfl rfl (ct_X12_wide (srl σ [(r_Md_chainThen, G)]) n D p f hI (by omega)) ?_
      show en_wp k_X12_step 11 [some (.inr (.inr (r_Md, 0))), some (.inl l), some (.inl e), some (.inl u), some (.inl f), some (.inl c), some (.inl v)] [.inl (sW n D f), .inl v] (srl σ [(r_Md_chainThen, G)]) _
      have q_1 : 0 ≤ sW n D f ∧ sW n D f ≤ 256 := sW_b hO
      refine wp_ic_ge rfl (by omega) (by omega) (fun h_2 => ?_) (fun h_2 => ?_)
      · show en_wp k_X12_step 84 [some (.inr (.inr (r_Md, 0))), some (.inl l), some (.inl e), some (.inl u), some (.inl f), some (.inl c), some (.inl v)] [] (srl σ [(r_Md_chainThen, G)]) _
        exact wp_vret rfl ⟨G, rfl, srl_eq (l' := [(r_Md_chainThen, G)]) (And.intro rfl trivial) (And.intro rfl trivial), ⟨fun v9 a b => by rw [hG1 v9 a b]; by_cases g9 : okC (σ r_Md_leads) n D (sS n D e + u) (sS n D f + v9); rw [if_pos g9, if_pos ⟨by omega, g9⟩]; rw [if_neg g9, if_neg (fun q => g9 q.2)], hG2⟩⟩
      · show en_wp k_X12_step 14 [some (.inr (.inr (r_Md, 0))), some (.inl l), some (.inl e), some (.inl u), some (.inl f), some (.inl c), some (.inl v)] [] (srl σ [(r_Md_chainThen, G)]) _
        refine wp_run 3 (pc' := 19) (ls' := [some (.inr (.inr (r_Md, 0))), some (.inl l), some (.inl e), some (.inl u), some (.inl f), some (.inl c), some (.inl v)]) (st' := [.inl v, .inl f, .inr (.inr (r_Md, 0))]) (σ' := srl σ [(r_Md_chainThen, G)]) rfl ?_
        have hokw := ok_w (L := (σ r_Md_leads)) hO (e := e) (f := f) (u := u) (v := v) he.1 hf hu ⟨hv.1, by omega⟩
        have hwi := dv_in (W := sW n D f) (n := sW n D e) (t := v) (y := u) hv.1 (by omega) hu.1 hu.2
        have hwi2 : u * sW n D f + v < sW n D (e + f) := by rw [hef, Int.mul_comm (sW n D e)]; exact hwi.2
        refine wp_fnv (v := .inl (bI ((σ r_Md_leads) (sS n D f + v) = 0))) rfl rfl rfl rfl (ct_X12_isNormal (srl σ [(r_Md_chainThen, G)]) n D p f v hI (by omega) ⟨hv.1, by omega⟩ hlead) ?_
        show en_wp k_X12_step 22 [some (.inr (.inr (r_Md, 0))), some (.inl l), some (.inl e), some (.inl u), some (.inl f), some (.inl c), some (.inl v)] [.inl (bI ((σ r_Md_leads) (sS n D f + v) = 0))] (srl σ [(r_Md_chainThen, G)]) _
        refine wp_if_eqb rfl (fun h_3 => ?_) (fun h_3 => ?_)
        · have hno9 : ¬ okC (σ r_Md_leads) n D (sS n D e + u) (sS n D f + v) := fun q => h_3 (hokw.mp q).2.1
          show en_wp k_X12_step 78 [some (.inr (.inr (r_Md, 0))), some (.inl l), some (.inl e), some (.inl u), some (.inl f), some (.inl c), some (.inl v)] [] (srl σ [(r_Md_chainThen, G)]) _
          refine wp_run 2 (pc' := 3) (ls' := [some (.inr (.inr (r_Md, 0))), some (.inl l), some (.inl e), some (.inl u), some (.inl f), some (.inl c), some (.inl (v + 1))]) (st' := []) (σ' := srl σ [(r_Md_chainThen, G)]) rfl ?_
          exact ih_3 (v + 1) G (by omega) (fun y a b => by rw [hG1 y a b]; by_cases g9 : y < v ∧ okC (σ r_Md_leads) n D (sS n D e + u) (sS n D f + y); rw [if_pos g9, if_pos ⟨by omega, g9.2⟩]; rw [if_neg g9, if_neg (fun q => g9 ⟨by have q1 := q.1; rcases Int.lt_or_eq_of_le (show y ≤ v by omega) with h5 | h5; exact h5; rw [h5] at q; exact absurd q.2 hno9, q.2⟩)]) hG2 (by omega)
        · have hv9 : (σ r_Md_leads) (sS n D f + v) = 0 := h_3
          show en_wp k_X12_step 25 [some (.inr (.inr (r_Md, 0))), some (.inl l), some (.inl e), some (.inl u), some (.inl f), some (.inl c), some (.inl v)] [] (srl σ [(r_Md_chainThen, G)]) _
          refine wp_run 7 (pc' := 34) (ls' := [some (.inr (.inr (r_Md, 0))), some (.inl l), some (.inl e), some (.inl u), some (.inl f), some (.inl c), some (.inl v)]) (st' := [.inl f, .inr (.inr (r_Md, 0)), .inl u, .inl (e + f), .inr (.inr (r_Md, 0))]) (σ' := srl σ [(r_Md_chainThen, G)]) rfl ?_
          refine wp_fnv (v := .inl (sW n D f)) rfl rfl rfl rfl (ct_X12_wide (srl σ [(r_Md_chainThen, G)]) n D p f hI (by omega)) ?_
          show en_wp k_X12_step 37 [some (.inr (.inr (r_Md, 0))), some (.inl l), some (.inl e), some (.inl u), some (.inl f), some (.inl c), some (.inl v)] [.inl (sW n D f), .inl u, .inl (e + f), .inr (.inr (r_Md, 0))] (srl σ [(r_Md_chainThen, G)]) _
          have q_4 : 0 ≤ sW n D f ∧ sW n D f ≤ 256 := sW_b hO
          refine wp_run 3 (pc' := 41) (ls' := [some (.inr (.inr (r_Md, 0))), some (.inl l), some (.inl e), some (.inl u), some (.inl f), some (.inl c), some (.inl v)]) (st' := [.inl ((u * (sW n D f)) + v), .inl (e + f), .inr (.inr (r_Md, 0))]) (σ' := srl σ [(r_Md_chainThen, G)]) rfl ?_
          refine wp_callv rfl rfl rfl rfl (ct_X12_endsOnce (srl σ [(r_Md_chainThen, G)]) n D p (e + f) ((u * (sW n D f)) + v) hI (by omega) ⟨hwi.1, hwi2⟩ hmo hlead) ?_
          rintro _ _ ⟨r_5, rfl, rfl, p_6⟩
          have p_6 : (r_5 = 1 ∧ okE ((σ r_Md_leads)) n D (e + f) ((u * (sW n D f)) + v)) ∨ (r_5 = 0 ∧ ¬ (okE ((σ r_Md_leads)) n D (e + f) ((u * (sW n D f)) + v))) := p_6
          show en_wp k_X12_step 44 [some (.inr (.inr (r_Md, 0))), some (.inl l), some (.inl e), some (.inl u), some (.inl f), some (.inl c), some (.inl v)] [.inl r_5] (srl σ [(r_Md_chainThen, G)]) _
          have kE := p_6
          have kEr : r_5 = 0 ∨ r_5 = 1 := by rcases kE with h | h <;> omega
          refine wp_if_ne rfl (by omega) (fun h_7 => ?_) (fun h_7 => ?_)
          · have hok9 : okC (σ r_Md_leads) n D (sS n D e + u) (sS n D f + v) := hokw.mpr ⟨he.2, hv9, (kE.resolve_right (by omega)).2⟩
            show en_wp k_X12_step 50 [some (.inr (.inr (r_Md, 0))), some (.inl l), some (.inl e), some (.inl u), some (.inl f), some (.inl c), some (.inl v)] [] (srl σ [(r_Md_chainThen, G)]) _
            refine wp_run 9 (pc' := 65) (ls' := [some (.inr (.inr (r_Md, 0))), some (.inl l), some (.inl e), some (.inl u), some (.inl f), some (.inl c), some (.inl v)]) (st' := [.inl f, .inr (.inr (r_Md, 0)), .inl (400 * (l + f)), .inr (.inr (r_Md_chainThen, 0))]) (σ' := srl σ [(r_Md_chainThen, G)]) rfl ?_
            refine wp_fnv (v := .inl (sS n D f)) rfl rfl rfl rfl (ct_X12_start (srl σ [(r_Md_chainThen, G)]) n D p f hI (by omega)) ?_
            show en_wp k_X12_step 68 [some (.inr (.inr (r_Md, 0))), some (.inl l), some (.inl e), some (.inl u), some (.inl f), some (.inl c), some (.inl v)] [.inl (sS n D f), .inl (400 * (l + f)), .inr (.inr (r_Md_chainThen, 0))] (srl σ [(r_Md_chainThen, G)]) _
            have q_8 : 0 ≤ sS n D f ∧ sS n D f ≤ 364 := sS_b hO
            refine wp_run 4 (pc' := 73) (ls' := [some (.inr (.inr (r_Md, 0))), some (.inl l), some (.inl e), some (.inl u), some (.inl f), some (.inl c), some (.inl v)]) (st' := [.inl (((400 * (l + f)) + (sS n D f)) + v), .inr (.inr (r_Md_chainThen, 0)), .inl (((400 * (l + f)) + (sS n D f)) + v), .inr (.inr (r_Md_chainThen, 0))]) (σ' := srl σ [(r_Md_chainThen, G)]) rfl ?_
            refine wp_iald0 rfl rfl (by omega) ?_
            show en_wp k_X12_step 74 [some (.inr (.inr (r_Md, 0))), some (.inl l), some (.inl e), some (.inl u), some (.inl f), some (.inl c), some (.inl v)] [.inl (G (((400 * (l + f)) + (sS n D f)) + v)), .inl (((400 * (l + f)) + (sS n D f)) + v), .inr (.inr (r_Md_chainThen, 0))] (srl σ [(r_Md_chainThen, G)]) _
            refine wp_run 2 (pc' := 77) (ls' := [some (.inr (.inr (r_Md, 0))), some (.inl l), some (.inl e), some (.inl u), some (.inl f), some (.inl c), some (.inl v)]) (st' := [.inl ((G (((400 * (l + f)) + (sS n D f)) + v)) + c), .inl (((400 * (l + f)) + (sS n D f)) + v), .inr (.inr (r_Md_chainThen, 0))]) (σ' := srl σ [(r_Md_chainThen, G)]) rfl ?_
            refine wp_iast0 rfl rfl (by omega) (wp_wr (l2 := [(r_Md_chainThen, (up G (((400 * (l + f)) + (sS n D f)) + v) ((G (((400 * (l + f)) + (sS n D f)) + v)) + c)))]) rfl ?_)
            show en_wp k_X12_step 78 [some (.inr (.inr (r_Md, 0))), some (.inl l), some (.inl e), some (.inl u), some (.inl f), some (.inl c), some (.inl v)] [] (srl σ [(r_Md_chainThen, (up G (((400 * (l + f)) + (sS n D f)) + v) ((G (((400 * (l + f)) + (sS n D f)) + v)) + c)))]) _
            refine wp_run 2 (pc' := 3) (ls' := [some (.inr (.inr (r_Md, 0))), some (.inl l), some (.inl e), some (.inl u), some (.inl f), some (.inl c), some (.inl (v + 1))]) (st' := []) (σ' := srl σ [(r_Md_chainThen, (up G (((400 * (l + f)) + (sS n D f)) + v) ((G (((400 * (l + f)) + (sS n D f)) + v)) + c)))]) rfl ?_
            exact ih_3 (v + 1) (up G (((400 * (l + f)) + (sS n D f)) + v) ((G (((400 * (l + f)) + (sS n D f)) + v)) + c)) (by omega) (fun y a b => by have e9 : 400 * (l + f) + (sS n D f + v) = 400 * (l + f) + sS n D f + v := (by omega); by_cases g9 : y = v; have h9 := hG1 v hv.1 (by omega); rw [e9, if_neg (by omega)] at h9; rw [g9, e9, up_eq, h9, if_pos ⟨by omega, hok9⟩, Int.add_zero]; rw [up_ne (by omega), hG1 y a b]; by_cases g8 : y < v ∧ okC (σ r_Md_leads) n D (sS n D e + u) (sS n D f + y); rw [if_pos g8, if_pos ⟨by omega, g8.2⟩]; rw [if_neg g8, if_neg (fun q => g8 ⟨by have := q.1; omega, q.2⟩)]) (fun x h => by rw [up_ne (by omega)]; exact hG2 x h) (by omega)
          · have hno9 : ¬ okC (σ r_Md_leads) n D (sS n D e + u) (sS n D f + v) := fun q => (kE.resolve_left (by omega)).2 (hokw.mp q).2.2
            show en_wp k_X12_step 47 [some (.inr (.inr (r_Md, 0))), some (.inl l), some (.inl e), some (.inl u), some (.inl f), some (.inl c), some (.inl v)] [] (srl σ [(r_Md_chainThen, G)]) _
            refine wp_run 3 (pc' := 3) (ls' := [some (.inr (.inr (r_Md, 0))), some (.inl l), some (.inl e), some (.inl u), some (.inl f), some (.inl c), some (.inl (v + 1))]) (st' := []) (σ' := srl σ [(r_Md_chainThen, G)]) rfl ?_
            exact ih_3 (v + 1) G (by omega) (fun y a b => by rw [hG1 y a b]; by_cases g9 : y < v ∧ okC (σ r_Md_leads) n D (sS n D e + u) (sS n D f + y); rw [if_pos g9, if_pos ⟨by omega, g9.2⟩]; rw [if_neg g9, if_neg (fun q => g9 ⟨by have q1 := q.1; rcases Int.lt_or_eq_of_le (show y ≤ v by omega) with h5 | h5; exact h5; rw [h5] at q; exact absurd q.2 hno9, q.2⟩)]) hG2 (by omega)
  refine wp_run 2 (pc' := 3) (ls' := [some (.inr (.inr (r_Md, 0))), some (.inl l), some (.inl e), some (.inl u), some (.inl f), some (.inl c), some (.inl 0)]) (st' := []) (σ' := srl σ []) rfl ?_
  refine wp_mem (srl_eq (l' := [(r_Md_chainThen, (σ r_Md_chainThen))]) trivial (And.intro rfl trivial)) ?_
  exact L_3 _ 0 (σ r_Md_chainThen) (by omega) (fun y a b => by rw [if_neg (by omega), Int.add_zero]) (fun _ _ => rfl) (Nat.lt_succ_self _)
