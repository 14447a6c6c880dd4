/-! contracts of methods, walked (written by wip/whole/walk.py from the annotations ann_n2) -/
theorem ct_X3_insert_Nought0 (σ : en_m) (n : Int) (D : Int) (p : Int) (V : (Int → Int) → Prop) (d : Int) (hI : cS0 σ n D p) (gd : 0 ≤ d ∧ d ≤ D) (gst : (σ r_Nought0_formStart) d = sQ n D d) (grow : R97 ((σ r_Nought0_row))) (gfm : R97 ((σ r_Nought0_forms))) (g01 : R01 ((σ r_Nought0_leading))) (gcd : cD p (sW n D d) V (fun w k => (σ r_Nought0_forms) (sQ n D d + w * sW n D d + k)) (fun w => (σ r_Nought0_leading) (sS n D d + w))) : en_ct z_X3_insert [.inr (.inr (r_Nought0, 0)), .inl d] σ (fun r σ' => ∃ (f_Nought0_reduced : Int → Int), ∃ (f_Nought0_leading : Int → Int), ∃ (f_Nought0_forms : Int → Int), r = none ∧ σ' = srl σ [(r_Nought0_reduced, f_Nought0_reduced), (r_Nought0_leading, f_Nought0_leading), (r_Nought0_forms, f_Nought0_forms)] ∧ (cD p (sW n D d) (vAdd V ((σ r_Nought0_row))) (fun w k => f_Nought0_forms (sQ n D d + w * sW n D d + k)) (fun w => f_Nought0_leading (sS n D d + w))) ∧ (∀ x, (x < sQ n D d ∨ sQ n D d + sW n D d * sW n D d ≤ x) → f_Nought0_forms x = (σ r_Nought0_forms) x) ∧ (∀ x, (x < sS n D d ∨ sS n D d + sW n D d ≤ x) → f_Nought0_leading x = (σ r_Nought0_leading) x) ∧ (R97 f_Nought0_forms) ∧ (R01 f_Nought0_leading)) := by
  show en_wp k_X3_insert 0 [some (.inr (.inr (r_Nought0, 0))), some (.inl d), none, none, none, none] [] (srl σ []) (fun r σ' => ∃ (f_Nought0_reduced : Int → Int), ∃ (f_Nought0_leading : Int → Int), ∃ (f_Nought0_forms : Int → Int), r = none ∧ σ' = srl σ [(r_Nought0_reduced, f_Nought0_reduced), (r_Nought0_leading, f_Nought0_leading), (r_Nought0_forms, f_Nought0_forms)] ∧ (cD p (sW n D d) (vAdd V ((σ r_Nought0_row))) (fun w k => f_Nought0_forms (sQ n D d + w * sW n D d + k)) (fun w => f_Nought0_leading (sS n D d + w))) ∧ (∀ x, (x < sQ n D d ∨ sQ n D d + sW n D d * sW n D d ≤ x) → f_Nought0_forms x = (σ r_Nought0_forms) x) ∧ (∀ x, (x < sS n D d ∨ sS n D d + sW n D d ≤ x) → f_Nought0_leading x = (σ r_Nought0_leading) x) ∧ (R97 f_Nought0_forms) ∧ (R01 f_Nought0_leading))
  have hI2 := hI
  obtain ⟨hO, hn, hD, hp, hm, hst, hln⟩ := hI2
  obtain ⟨⟨hO1, hO2⟩, ⟨hO3, hO4⟩, hO5, hO6, hO7, hO8⟩ := id hO
  have hWb := sW_b (k := d) hO
  have hSb := sS_b (k := d) hO
  have hp2 := hO.2.2.2.2.1
  have L_124 : ∀ (N : Nat) (l : Int) (w : Int) (s : Int) (X : Int → Int) (Y : Int → Int) (Z : Int → Int) (G : Int → Int), (0 ≤ l ∧ l < sW n D d) → (¬ X l = 0) → (∀ x, l < x → x < sW n D d → X x = 0) → (∀ x, 0 ≤ x → x < sW n D d → X x = nfs (fun w k => σ r_Nought0_forms (sQ n D d + w * sW n D d + k)) (sW n D d) (σ r_Nought0_row) x % p) → ((0 ≤ s ∧ s < p) ∧ mE p (X l * s) (-1)) → (l ≤ w ∧ w ≤ sW n D d) → (Y = seg X 0 l (fun j => (s * X j) % p)) → (Z = up (σ r_Nought0_leading) (sS n D d + l) 1) → (∀ u k, 0 ≤ u → u < sW n D d → 0 ≤ k → k < sW n D d → G (sQ n D d + u * sW n D d + k) = if u < w then (if k < l then (σ r_Nought0_forms (sQ n D d + u * sW n D d + k) + σ r_Nought0_forms (sQ n D d + u * sW n D d + l) * Y k) % p else if k = l then 0 else σ r_Nought0_forms (sQ n D d + u * sW n D d + k)) else σ r_Nought0_forms (sQ n D d + u * sW n D d + k)) → (∀ x, (x < sQ n D d ∨ sQ n D d + sW n D d * sW n D d ≤ x) → G x = σ r_Nought0_forms x) → (R97 G) → (sW n D d - w).toNat < N → en_wp k_X3_insert 124 [some (.inr (.inr (r_Nought0, 0))), some (.inl d), some (.inl (sW n D d)), some (.inl l), some (.inl s), some (.inl w)] [] (srl σ [(r_Nought0_reduced, Y), (r_Nought0_leading, Z), (r_Nought0_forms, G)]) (fun r σ' => ∃ (f_Nought0_reduced : Int → Int), ∃ (f_Nought0_leading : Int → Int), ∃ (f_Nought0_forms : Int → Int), r = none ∧ σ' = srl σ [(r_Nought0_reduced, f_Nought0_reduced), (r_Nought0_leading, f_Nought0_leading), (r_Nought0_forms, f_Nought0_forms)] ∧ (cD p (sW n D d) (vAdd V ((σ r_Nought0_row))) (fun w k => f_Nought0_forms (sQ n D d + w * sW n D d + k)) (fun w => f_Nought0_leading (sS n D d + w))) ∧ (∀ x, (x < sQ n D d ∨ sQ n D d + sW n D d * sW n D d ≤ x) → f_Nought0_forms x = (σ r_Nought0_forms) x) ∧ (∀ x, (x < sS n D d ∨ sS n D d + sW n D d ≤ x) → f_Nought0_leading x = (σ r_Nought0_leading) x) ∧ (R97 f_Nought0_forms) ∧ (R01 f_Nought0_leading)) := by
    intro N
    induction N with
    | zero => intro l w s X Y Z G; intros; omega
    | succ N ih_124 =>
      intro l w s X Y Z G hl hxl hz hX hs hw hY hZ hG hG2 hG3 hN_124
      refine wp_run 2 (pc' := 127) (ls' := [some (.inr (.inr (r_Nought0, 0))), some (.inl d), some (.inl (sW n D d)), some (.inl l), some (.inl s), some (.inl w)]) (st' := [.inl (sW n D d), .inl w]) (σ' := srl σ [(r_Nought0_reduced, Y), (r_Nought0_leading, Z), (r_Nought0_forms, G)]) rfl ?_
      refine wp_ic_ge rfl (by omega) (by omega) (fun h_1 => ?_) (fun h_1 => ?_)
      · show en_wp k_X3_insert 152 [some (.inr (.inr (r_Nought0, 0))), some (.inl d), some (.inl (sW n D d)), some (.inl l), some (.inl s), some (.inl w)] [] (srl σ [(r_Nought0_reduced, Y), (r_Nought0_leading, Z), (r_Nought0_forms, G)]) _
        exact wp_vret rfl ⟨Y, Z, G, rfl, srl_eq (l' := [(r_Nought0_reduced, Y), (r_Nought0_leading, Z), (r_Nought0_forms, G)]) (And.intro rfl (And.intro rfl (And.intro rfl trivial))) (And.intro rfl (And.intro rfl (And.intro rfl trivial))), ⟨ins_yes hO.2.2.2 gcd hX hl hxl hz hs.2 hY hZ (by omega) hG, hG2, fun x h8 => by rw [hZ]; exact up_ne (by omega), hG3, by rw [hZ]; exact R01_up g01 (.inr rfl)⟩⟩
      · show en_wp k_X3_insert 130 [some (.inr (.inr (r_Nought0, 0))), some (.inl d), some (.inl (sW n D d)), some (.inl l), some (.inl s), some (.inl w)] [] (srl σ [(r_Nought0_reduced, Y), (r_Nought0_leading, Z), (r_Nought0_forms, G)]) _
        refine wp_run 4 (pc' := 136) (ls' := [some (.inr (.inr (r_Nought0, 0))), some (.inl d), some (.inl (sW n D d)), some (.inl l), some (.inl s), some (.inl w)]) (st' := [.inl d, .inr (.inr (r_Nought0_formStart, 0)), .inr (.inr (r_Nought0, 0))]) (σ' := srl σ [(r_Nought0_reduced, Y), (r_Nought0_leading, Z), (r_Nought0_forms, G)]) rfl ?_
        refine wp_iald0 rfl rfl (by omega) ?_
        show en_wp k_X3_insert 137 [some (.inr (.inr (r_Nought0, 0))), some (.inl d), some (.inl (sW n D d)), some (.inl l), some (.inl s), some (.inl w)] [.inl (σ r_Nought0_formStart d), .inr (.inr (r_Nought0, 0))] (srl σ [(r_Nought0_reduced, Y), (r_Nought0_leading, Z), (r_Nought0_forms, G)]) _
        refine wp_run 5 (pc' := 143) (ls' := [some (.inr (.inr (r_Nought0, 0))), some (.inl d), some (.inl (sW n D d)), some (.inl l), some (.inl s), some (.inl w)]) (st' := [.inl l, .inl ((σ r_Nought0_formStart d) + (w * (sW n D d))), .inr (.inr (r_Nought0, 0))]) (σ' := srl σ [(r_Nought0_reduced, Y), (r_Nought0_leading, Z), (r_Nought0_forms, G)]) rfl ?_
        have hYr : ∀ k, 0 ≤ k → k < l → 0 ≤ Y k ∧ Y k < 97 := fun k h8 h9 => by
          rw [hY, seg_in0 (by omega)]
          have := @sR_lt p (s * X k) hO.2.2.2
          omega
        have hGr : ∀ k, 0 ≤ k → k < l → 0 ≤ G ((σ r_Nought0_formStart d + w * sW n D d) + k) ∧ G ((σ r_Nought0_formStart d + w * sW n D d) + k) < p := fun k h8 h9 => by
          rw [gst, hG w k (by omega) (by omega) h8 (by omega), if_neg (by omega)]
          exact gcd.1 w k (by omega) (by omega) h8 (by omega)
        have hat := sQ_in hO gd.1 (show 0 ≤ w ∧ w < sW n D d by omega) (show 0 ≤ l ∧ l < sW n D d by omega)
        have hat2 := sQ_in hO gd.1 (show 0 ≤ w ∧ w < sW n D d by omega) (show 0 ≤ 0 ∧ 0 < sW n D d by omega)
        rw [← gst] at hat hat2
        refine wp_callv rfl rfl rfl rfl (ct_X3_replace_Nought0 (srl σ [(r_Nought0_reduced, Y), (r_Nought0_leading, Z), (r_Nought0_forms, G)]) n D p ((σ r_Nought0_formStart d) + (w * (sW n D d))) l hI (by omega) hG3 hYr hGr) ?_
        rintro _ _ ⟨f_2, rfl, rfl, p_3⟩
        have p_3 : f_2 = up (seg (G) ((σ r_Nought0_formStart d) + (w * (sW n D d))) l (fun k => (G (((σ r_Nought0_formStart d) + (w * (sW n D d))) + k) + G (((σ r_Nought0_formStart d) + (w * (sW n D d))) + l) * Y k) % p)) (((σ r_Nought0_formStart d) + (w * (sW n D d))) + l) 0 := p_3
        refine wp_bk (l2 := [(r_Nought0_reduced, Y), (r_Nought0_leading, Z), (r_Nought0_forms, f_2)]) rfl rfl ?_
        show en_wp k_X3_insert 146 [some (.inr (.inr (r_Nought0, 0))), some (.inl d), some (.inl (sW n D d)), some (.inl l), some (.inl s), some (.inl w)] [] (srl σ [(r_Nought0_reduced, Y), (r_Nought0_leading, Z), (r_Nought0_forms, f_2)]) _
        have hrp := p_3
        refine wp_run 2 (pc' := 124) (ls' := [some (.inr (.inr (r_Nought0, 0))), some (.inl d), some (.inl (sW n D d)), some (.inl l), some (.inl s), some (.inl (w + 1))]) (st' := []) (σ' := srl σ [(r_Nought0_reduced, Y), (r_Nought0_leading, Z), (r_Nought0_forms, f_2)]) rfl ?_
        exact ih_124 l (w + 1) s X Y Z f_2 (by omega) hxl hz hX hs (by omega) hY hZ (rp_step (w := w) (W := sW n D d) (Q := sQ n D d) ⟨by omega, by omega⟩ hl (by rw [gst]) hrp hG) (fun x h8 => (rp_out (w := w) (W := sW n D d) (Q := sQ n D d) ⟨by omega, by omega⟩ hl (by rw [gst]) hrp h8).trans (hG2 x h8)) (rp_97 hO.2.2.2 hrp hG3) (by omega)
  have L_69 : ∀ (N : Nat) (l : Int) (k : Int) (s : Int) (X : Int → Int) (Y : Int → Int), (0 ≤ l ∧ l < sW n D d) → (¬ X l = 0) → (∀ x, l < x → x < sW n D d → X x = 0) → (∀ x, 0 ≤ x → x < sW n D d → X x = nfs (fun w k => σ r_Nought0_forms (sQ n D d + w * sW n D d + k)) (sW n D d) (σ r_Nought0_row) x % p) → ((0 ≤ s ∧ s < p) ∧ mE p (X l * s) (-1)) → (0 ≤ k ∧ k ≤ l) → (Y = seg X 0 k (fun j => (s * X j) % p)) → (l - k).toNat < N → en_wp k_X3_insert 69 [some (.inr (.inr (r_Nought0, 0))), some (.inl d), some (.inl (sW n D d)), some (.inl l), some (.inl s), some (.inl k)] [] (srl σ [(r_Nought0_reduced, Y)]) (fun r σ' => ∃ (f_Nought0_reduced : Int → Int), ∃ (f_Nought0_leading : Int → Int), ∃ (f_Nought0_forms : Int → Int), r = none ∧ σ' = srl σ [(r_Nought0_reduced, f_Nought0_reduced), (r_Nought0_leading, f_Nought0_leading), (r_Nought0_forms, f_Nought0_forms)] ∧ (cD p (sW n D d) (vAdd V ((σ r_Nought0_row))) (fun w k => f_Nought0_forms (sQ n D d + w * sW n D d + k)) (fun w => f_Nought0_leading (sS n D d + w))) ∧ (∀ x, (x < sQ n D d ∨ sQ n D d + sW n D d * sW n D d ≤ x) → f_Nought0_forms x = (σ r_Nought0_forms) x) ∧ (∀ x, (x < sS n D d ∨ sS n D d + sW n D d ≤ x) → f_Nought0_leading x = (σ r_Nought0_leading) x) ∧ (R97 f_Nought0_forms) ∧ (R01 f_Nought0_leading)) := by
    intro N
    induction N with
    | zero => intro l k s X Y; intros; omega
    | succ N ih_69 =>
      intro l k s X Y hl hxl hz hX hs hk hY hN_69
      refine wp_run 2 (pc' := 72) (ls' := [some (.inr (.inr (r_Nought0, 0))), some (.inl d), some (.inl (sW n D d)), some (.inl l), some (.inl s), some (.inl k)]) (st' := [.inl l, .inl k]) (σ' := srl σ [(r_Nought0_reduced, Y)]) rfl ?_
      refine wp_ic_ge rfl (by omega) (by omega) (fun h_4 => ?_) (fun h_4 => ?_)
      · show en_wp k_X3_insert 105 [some (.inr (.inr (r_Nought0, 0))), some (.inl d), some (.inl (sW n D d)), some (.inl l), some (.inl s), some (.inl k)] [] (srl σ [(r_Nought0_reduced, Y)]) _
        refine wp_run 5 (pc' := 114) (ls' := [some (.inr (.inr (r_Nought0, 0))), some (.inl d), some (.inl (sW n D d)), some (.inl l), some (.inl s), some (.inl k)]) (st' := [.inl d, .inr (.inr (r_Shape0, 0)), .inr (.inr (r_Nought0_leading, 0))]) (σ' := srl σ [(r_Nought0_reduced, Y)]) rfl ?_
        refine wp_fnv (v := .inl (sS n D d)) rfl rfl rfl rfl (ct_X5_startOf_Shape0_p (srl σ [(r_Nought0_reduced, Y)]) n D p d hI (by omega)) ?_
        show en_wp k_X3_insert 117 [some (.inr (.inr (r_Nought0, 0))), some (.inl d), some (.inl (sW n D d)), some (.inl l), some (.inl s), some (.inl k)] [.inl (sS n D d), .inr (.inr (r_Nought0_leading, 0))] (srl σ [(r_Nought0_reduced, Y)]) _
        have q_5 : 0 ≤ sS n D d ∧ sS n D d ≤ 364 := sS_b hO
        refine wp_run 3 (pc' := 120) (ls' := [some (.inr (.inr (r_Nought0, 0))), some (.inl d), some (.inl (sW n D d)), some (.inl l), some (.inl s), some (.inl k)]) (st' := [.inl 1, .inl ((sS n D d) + l), .inr (.inr (r_Nought0_leading, 0))]) (σ' := srl σ [(r_Nought0_reduced, Y)]) rfl ?_
        have hsw := sS_word hO gd.1 hl
        refine wp_bast0 rfl rfl (by omega) (by omega) (wp_wr (l2 := [(r_Nought0_reduced, Y), (r_Nought0_leading, (up (σ r_Nought0_leading) ((sS n D d) + l) 1))]) rfl ?_)
        show en_wp k_X3_insert 121 [some (.inr (.inr (r_Nought0, 0))), some (.inl d), some (.inl (sW n D d)), some (.inl l), some (.inl s), some (.inl k)] [] (srl σ [(r_Nought0_reduced, Y), (r_Nought0_leading, (up (σ r_Nought0_leading) ((sS n D d) + l) 1))]) _
        refine wp_run 2 (pc' := 124) (ls' := [some (.inr (.inr (r_Nought0, 0))), some (.inl d), some (.inl (sW n D d)), some (.inl l), some (.inl s), some (.inl l)]) (st' := []) (σ' := srl σ [(r_Nought0_reduced, Y), (r_Nought0_leading, (up (σ r_Nought0_leading) ((sS n D d) + l) 1))]) rfl ?_
        refine wp_mem (srl_eq (l' := [(r_Nought0_reduced, Y), (r_Nought0_leading, (up (σ r_Nought0_leading) ((sS n D d) + l) 1)), (r_Nought0_forms, (σ r_Nought0_forms))]) (And.intro rfl (And.intro rfl trivial)) (And.intro rfl (And.intro rfl (And.intro rfl trivial)))) ?_
        exact L_124 _ l l s X Y (up (σ r_Nought0_leading) ((sS n D d) + l) 1) (σ r_Nought0_forms) (by omega) hxl hz hX hs (by omega) (by rw [hY, show k = l by omega]) rfl (ins_G0 gcd hl) (fun _ _ => rfl) gfm (Nat.lt_succ_self _)
      · show en_wp k_X3_insert 75 [some (.inr (.inr (r_Nought0, 0))), some (.inl d), some (.inl (sW n D d)), some (.inl l), some (.inl s), some (.inl k)] [] (srl σ [(r_Nought0_reduced, Y)]) _
        refine wp_run 9 (pc' := 93) (ls' := [some (.inr (.inr (r_Nought0, 0))), some (.inl d), some (.inl (sW n D d)), some (.inl l), some (.inl s), some (.inl k)]) (st' := [.inl k, .inr (.inr (r_Nought0_reduced, 0)), .inl s, .inr (.inr (r_Shape0, 0)), .inl k, .inr (.inr (r_Nought0_reduced, 0))]) (σ' := srl σ [(r_Nought0_reduced, Y)]) rfl ?_
        refine wp_iald0 rfl rfl (by omega) ?_
        show en_wp k_X3_insert 94 [some (.inr (.inr (r_Nought0, 0))), some (.inl d), some (.inl (sW n D d)), some (.inl l), some (.inl s), some (.inl k)] [.inl (Y k), .inl s, .inr (.inr (r_Shape0, 0)), .inl k, .inr (.inr (r_Nought0_reduced, 0))] (srl σ [(r_Nought0_reduced, Y)]) _
        refine wp_run 1 (pc' := 95) (ls' := [some (.inr (.inr (r_Nought0, 0))), some (.inl d), some (.inl (sW n D d)), some (.inl l), some (.inl s), some (.inl k)]) (st' := [.inl (s * (Y k)), .inr (.inr (r_Shape0, 0)), .inl k, .inr (.inr (r_Nought0_reduced, 0))]) (σ' := srl σ [(r_Nought0_reduced, Y)]) rfl ?_
        have hYk : Y k = X k := by rw [hY]; exact seg_out (by omega)
        have hXk : 0 ≤ X k ∧ X k < p := by rw [hX k (by omega) (by omega)]; exact sR_lt hO.2.2.2
        have hm1 := m97 (a := s) (b := Y k) (by omega) (by omega)
        refine wp_fnv (v := .inl ((s * (Y k)) % p)) rfl rfl rfl rfl (ct_X5_rest_Shape0 (srl σ [(r_Nought0_reduced, Y)]) n D p (s * (Y k)) hI (by omega)) ?_
        show en_wp k_X3_insert 98 [some (.inr (.inr (r_Nought0, 0))), some (.inl d), some (.inl (sW n D d)), some (.inl l), some (.inl s), some (.inl k)] [.inl ((s * (Y k)) % p), .inl k, .inr (.inr (r_Nought0_reduced, 0))] (srl σ [(r_Nought0_reduced, Y)]) _
        have q_6 : 0 ≤ (s * (Y k)) % p ∧ (s * (Y k)) % p < p := sR_lt hO.2.2.2
        refine wp_iast0 rfl rfl (by omega) (wp_wr (l2 := [(r_Nought0_reduced, (up Y k ((s * (Y k)) % p)))]) rfl ?_)
        show en_wp k_X3_insert 99 [some (.inr (.inr (r_Nought0, 0))), some (.inl d), some (.inl (sW n D d)), some (.inl l), some (.inl s), some (.inl k)] [] (srl σ [(r_Nought0_reduced, (up Y k ((s * (Y k)) % p)))]) _
        refine wp_run 2 (pc' := 69) (ls' := [some (.inr (.inr (r_Nought0, 0))), some (.inl d), some (.inl (sW n D d)), some (.inl l), some (.inl s), some (.inl (k + 1))]) (st' := []) (σ' := srl σ [(r_Nought0_reduced, (up Y k ((s * (Y k)) % p)))]) rfl ?_
        exact ih_69 l (k + 1) s X (up Y k ((s * (Y k)) % p)) (by omega) hxl hz hX hs (by omega) (by rw [hYk, hY]; exact seg_up0 hk.1 rfl) (by omega)
  have L_38 : ∀ (N : Nat) (l : Int) (X : Int → Int), ((l = -1 ∧ ∀ x, 0 ≤ x → x < sW n D d → X x = 0) ∨ ((0 ≤ l ∧ l < sW n D d) ∧ ¬ X l = 0 ∧ ∀ x, l < x → x < sW n D d → X x = 0)) → (∀ x, 0 ≤ x → x < sW n D d → X x = nfs (fun w k => σ r_Nought0_forms (sQ n D d + w * sW n D d + k)) (sW n D d) (σ r_Nought0_row) x % p) → ((0 : Int)).toNat < N → en_wp k_X3_insert 38 [some (.inr (.inr (r_Nought0, 0))), some (.inl d), some (.inl (sW n D d)), some (.inl l), none, none] [] (srl σ [(r_Nought0_reduced, X)]) (fun r σ' => ∃ (f_Nought0_reduced : Int → Int), ∃ (f_Nought0_leading : Int → Int), ∃ (f_Nought0_forms : Int → Int), r = none ∧ σ' = srl σ [(r_Nought0_reduced, f_Nought0_reduced), (r_Nought0_leading, f_Nought0_leading), (r_Nought0_forms, f_Nought0_forms)] ∧ (cD p (sW n D d) (vAdd V ((σ r_Nought0_row))) (fun w k => f_Nought0_forms (sQ n D d + w * sW n D d + k)) (fun w => f_Nought0_leading (sS n D d + w))) ∧ (∀ x, (x < sQ n D d ∨ sQ n D d + sW n D d * sW n D d ≤ x) → f_Nought0_forms x = (σ r_Nought0_forms) x) ∧ (∀ x, (x < sS n D d ∨ sS n D d + sW n D d ≤ x) → f_Nought0_leading x = (σ r_Nought0_leading) x) ∧ (R97 f_Nought0_forms) ∧ (R01 f_Nought0_leading)) := by
    intro N
    induction N with
    | zero => intro l X; intros; omega
    | succ N ih_38 =>
      intro l X hj hX hN_38
      refine wp_run 1 (pc' := 39) (ls' := [some (.inr (.inr (r_Nought0, 0))), some (.inl d), some (.inl (sW n D d)), some (.inl l), none, none]) (st' := [.inl l]) (σ' := srl σ [(r_Nought0_reduced, X)]) rfl ?_
      refine wp_if_ge rfl (by omega) (fun h_7 => ?_) (fun h_7 => ?_)
      · rcases hj with ⟨h8, _⟩ | ⟨hl0, hxl, hz⟩
        · exfalso; omega
        show en_wp k_X3_insert 43 [some (.inr (.inr (r_Nought0, 0))), some (.inl d), some (.inl (sW n D d)), some (.inl l), none, none] [] (srl σ [(r_Nought0_reduced, X)]) _
        refine wp_run 7 (pc' := 56) (ls' := [some (.inr (.inr (r_Nought0, 0))), some (.inl d), some (.inl (sW n D d)), some (.inl l), none, none]) (st' := [.inl l, .inr (.inr (r_Nought0_reduced, 0)), .inr (.inr (r_Shape0, 0)), .inr (.inr (r_Shape0, 0))]) (σ' := srl σ [(r_Nought0_reduced, X)]) rfl ?_
        refine wp_iald0 rfl rfl (by omega) ?_
        show en_wp k_X3_insert 57 [some (.inr (.inr (r_Nought0, 0))), some (.inl d), some (.inl (sW n D d)), some (.inl l), none, none] [.inl (X l), .inr (.inr (r_Shape0, 0)), .inr (.inr (r_Shape0, 0))] (srl σ [(r_Nought0_reduced, X)]) _
        have hXl : 0 ≤ X l ∧ X l < p := by rw [hX l (by omega) (by omega)]; exact sR_lt hO.2.2.2
        refine wp_callv rfl rfl rfl rfl (ct_X5_inverseOf_Shape0 (srl σ [(r_Nought0_reduced, X)]) n D p (X l) hI (by omega)) ?_
        rintro _ _ ⟨r_8, rfl, rfl, p_9⟩
        have p_9 : 1 ≤ r_8 ∧ r_8 < p ∧ (r_8 * (X l)) % p = 1 := p_9
        show en_wp k_X3_insert 60 [some (.inr (.inr (r_Nought0, 0))), some (.inl d), some (.inl (sW n D d)), some (.inl l), none, none] [.inl r_8, .inr (.inr (r_Shape0, 0))] (srl σ [(r_Nought0_reduced, X)]) _
        have hinv := p_9
        refine wp_run 1 (pc' := 61) (ls' := [some (.inr (.inr (r_Nought0, 0))), some (.inl d), some (.inl (sW n D d)), some (.inl l), none, none]) (st' := [.inl (-r_8), .inr (.inr (r_Shape0, 0))]) (σ' := srl σ [(r_Nought0_reduced, X)]) rfl ?_
        refine wp_fnv (v := .inl ((-r_8) % p)) rfl rfl rfl rfl (ct_X5_rest_Shape0 (srl σ [(r_Nought0_reduced, X)]) n D p (-r_8) hI (by omega)) ?_
        show en_wp k_X3_insert 64 [some (.inr (.inr (r_Nought0, 0))), some (.inl d), some (.inl (sW n D d)), some (.inl l), none, none] [.inl ((-r_8) % p)] (srl σ [(r_Nought0_reduced, X)]) _
        have q_10 : 0 ≤ (-r_8) % p ∧ (-r_8) % p < p := sR_lt hO.2.2.2
        refine wp_run 3 (pc' := 69) (ls' := [some (.inr (.inr (r_Nought0, 0))), some (.inl d), some (.inl (sW n D d)), some (.inl l), some (.inl ((-r_8) % p)), some (.inl 0)]) (st' := []) (σ' := srl σ [(r_Nought0_reduced, X)]) rfl ?_
        exact L_69 _ l 0 ((-r_8) % p) X X (by omega) hxl hz hX ⟨by omega, ins_s hO.2.2.2 hinv.2.2⟩ (by omega) (seg_0 _ _ _).symm (Nat.lt_succ_self _)
      · rcases hj with ⟨h8, hz⟩ | ⟨hl0, hxl, hz⟩
        rotate_left
        · exfalso; omega
        show en_wp k_X3_insert 42 [some (.inr (.inr (r_Nought0, 0))), some (.inl d), some (.inl (sW n D d)), some (.inl l), none, none] [] (srl σ [(r_Nought0_reduced, X)]) _
        exact wp_vret rfl ⟨X, (σ r_Nought0_leading), (σ r_Nought0_forms), rfl, srl_eq (l' := [(r_Nought0_reduced, X), (r_Nought0_leading, σ r_Nought0_leading), (r_Nought0_forms, σ r_Nought0_forms)]) (And.intro rfl trivial) (And.intro rfl (And.intro rfl (And.intro rfl trivial))), ⟨ins_no gcd hX hz, fun _ _ => rfl, fun _ _ => rfl, gfm, g01⟩⟩
  have L_19 : ∀ (N : Nat) (l : Int) (X : Int → Int), (-1 ≤ l ∧ l < sW n D d) → (∀ x, l < x → x < sW n D d → X x = 0) → (∀ x, 0 ≤ x → x < sW n D d → X x = nfs (fun w k => σ r_Nought0_forms (sQ n D d + w * sW n D d + k)) (sW n D d) (σ r_Nought0_row) x % p) → (l + 1).toNat < N → en_wp k_X3_insert 19 [some (.inr (.inr (r_Nought0, 0))), some (.inl d), some (.inl (sW n D d)), some (.inl l), none, none] [] (srl σ [(r_Nought0_reduced, X)]) (fun r σ' => ∃ (f_Nought0_reduced : Int → Int), ∃ (f_Nought0_leading : Int → Int), ∃ (f_Nought0_forms : Int → Int), r = none ∧ σ' = srl σ [(r_Nought0_reduced, f_Nought0_reduced), (r_Nought0_leading, f_Nought0_leading), (r_Nought0_forms, f_Nought0_forms)] ∧ (cD p (sW n D d) (vAdd V ((σ r_Nought0_row))) (fun w k => f_Nought0_forms (sQ n D d + w * sW n D d + k)) (fun w => f_Nought0_leading (sS n D d + w))) ∧ (∀ x, (x < sQ n D d ∨ sQ n D d + sW n D d * sW n D d ≤ x) → f_Nought0_forms x = (σ r_Nought0_forms) x) ∧ (∀ x, (x < sS n D d ∨ sS n D d + sW n D d ≤ x) → f_Nought0_leading x = (σ r_Nought0_leading) x) ∧ (R97 f_Nought0_forms) ∧ (R01 f_Nought0_leading)) := by
    intro N
    induction N with
    | zero => intro l X; intros; omega
    | succ N ih_19 =>
      intro l X hl hz hX hN_19
      refine wp_run 1 (pc' := 20) (ls' := [some (.inr (.inr (r_Nought0, 0))), some (.inl d), some (.inl (sW n D d)), some (.inl l), none, none]) (st' := [.inl l]) (σ' := srl σ [(r_Nought0_reduced, X)]) rfl ?_
      refine wp_if_lt rfl (by omega) (fun h_11 => ?_) (fun h_11 => ?_)
      · show en_wp k_X3_insert 38 [some (.inr (.inr (r_Nought0, 0))), some (.inl d), some (.inl (sW n D d)), some (.inl l), none, none] [] (srl σ [(r_Nought0_reduced, X)]) _
        exact L_38 _ l X (by first | exact .inl ⟨by omega, fun x h8 h9 => hz x (by omega) h9⟩ | exact .inr ⟨by omega, by assumption, hz⟩) hX (Nat.lt_succ_self _)
      · show en_wp k_X3_insert 23 [some (.inr (.inr (r_Nought0, 0))), some (.inl d), some (.inl (sW n D d)), some (.inl l), none, none] [] (srl σ [(r_Nought0_reduced, X)]) _
        refine wp_run 3 (pc' := 28) (ls' := [some (.inr (.inr (r_Nought0, 0))), some (.inl d), some (.inl (sW n D d)), some (.inl l), none, none]) (st' := [.inl l, .inr (.inr (r_Nought0_reduced, 0))]) (σ' := srl σ [(r_Nought0_reduced, X)]) rfl ?_
        refine wp_iald0 rfl rfl (by omega) ?_
        show en_wp k_X3_insert 29 [some (.inr (.inr (r_Nought0, 0))), some (.inl d), some (.inl (sW n D d)), some (.inl l), none, none] [.inl (X l)] (srl σ [(r_Nought0_reduced, X)]) _
        have hXl : 0 ≤ X l ∧ X l < p := by rw [hX l (by omega) (by omega)]; exact sR_lt hO.2.2.2
        refine wp_if_ne rfl (by omega) (fun h_12 => ?_) (fun h_12 => ?_)
        · show en_wp k_X3_insert 38 [some (.inr (.inr (r_Nought0, 0))), some (.inl d), some (.inl (sW n D d)), some (.inl l), none, none] [] (srl σ [(r_Nought0_reduced, X)]) _
          exact L_38 _ l X (by first | exact .inl ⟨by omega, fun x h8 h9 => hz x (by omega) h9⟩ | exact .inr ⟨by omega, by assumption, hz⟩) hX (Nat.lt_succ_self _)
        · show en_wp k_X3_insert 32 [some (.inr (.inr (r_Nought0, 0))), some (.inl d), some (.inl (sW n D d)), some (.inl l), none, none] [] (srl σ [(r_Nought0_reduced, X)]) _
          refine wp_run 2 (pc' := 19) (ls' := [some (.inr (.inr (r_Nought0, 0))), some (.inl d), some (.inl (sW n D d)), some (.inl (l + (-1))), none, none]) (st' := []) (σ' := srl σ [(r_Nought0_reduced, X)]) rfl ?_
          exact ih_19 (l + (-1)) X (by omega) (by intro x h8 h9; rcases Int.lt_or_eq_of_le (show l ≤ x by omega) with h7 | h7 <;> first | exact hz x h7 h9 | (rw [← h7]; assumption)) hX (by omega)
  refine wp_run 3 (pc' := 5) (ls' := [some (.inr (.inr (r_Nought0, 0))), some (.inl d), none, none, none, none]) (st' := [.inl d, .inr (.inr (r_Shape0, 0))]) (σ' := srl σ []) rfl ?_
  refine wp_fnv (v := .inl (sW n D d)) rfl rfl rfl rfl (ct_X5_wordsOf_Shape0 σ n D p d hI (by omega)) ?_
  show en_wp k_X3_insert 8 [some (.inr (.inr (r_Nought0, 0))), some (.inl d), none, none, none, none] [.inl (sW n D d)] (srl σ []) _
  have q_13 : 0 ≤ sW n D d ∧ sW n D d ≤ 256 := sW_b hO
  refine wp_run 4 (pc' := 12) (ls' := [some (.inr (.inr (r_Nought0, 0))), some (.inl d), some (.inl (sW n D d)), none, none, none]) (st' := [.inl (sW n D d), .inl d, .inr (.inr (r_Nought0, 0))]) (σ' := srl σ []) rfl ?_
  refine wp_callv rfl rfl rfl rfl (ct_X3_reduce_Nought0 σ n D p d (sW n D d) hI (by omega) (by omega) gst grow gfm gcd.2.1) ?_
  rintro _ _ ⟨f_14, rfl, rfl, p_15⟩
  have p_15 : ∀ x, 0 ≤ x → x < sW n D d → f_14 x = nfs (fun w k => (σ r_Nought0_forms) (sQ n D d + w * sW n D d + k)) (sW n D d) ((σ r_Nought0_row)) x % p := p_15
  show en_wp k_X3_insert 15 [some (.inr (.inr (r_Nought0, 0))), some (.inl d), some (.inl (sW n D d)), none, none, none] [] (srl σ [(r_Nought0_reduced, f_14)]) _
  have hred := p_15
  refine wp_run 4 (pc' := 19) (ls' := [some (.inr (.inr (r_Nought0, 0))), some (.inl d), some (.inl (sW n D d)), some (.inl ((sW n D d) - 1)), none, none]) (st' := []) (σ' := srl σ [(r_Nought0_reduced, f_14)]) rfl ?_
  exact L_19 _ ((sW n D d) - 1) f_14 (by omega) (fun x h8 h9 => by omega) hred (Nat.lt_succ_self _)
theorem ct_X3_insert_Nought1 (σ : en_m) (n : Int) (D : Int) (p : Int) (V : (Int → Int) → Prop) (d : Int) (hI : cS0 σ n D p) (gd : 0 ≤ d ∧ d ≤ D) (gst : (σ r_Nought1_formStart) d = sQ n D d) (grow : R97 ((σ r_Nought1_row))) (gfm : R97 ((σ r_Nought1_forms))) (g01 : R01 ((σ r_Nought1_leading))) (gcd : cD p (sW n D d) V (fun w k => (σ r_Nought1_forms) (sQ n D d + w * sW n D d + k)) (fun w => (σ r_Nought1_leading) (sS n D d + w))) : en_ct z_X3_insert [.inr (.inr (r_Nought1, 0)), .inl d] σ (fun r σ' => ∃ (f_Nought1_reduced : Int → Int), ∃ (f_Nought1_leading : Int → Int), ∃ (f_Nought1_forms : Int → Int), r = none ∧ σ' = srl σ [(r_Nought1_reduced, f_Nought1_reduced), (r_Nought1_leading, f_Nought1_leading), (r_Nought1_forms, f_Nought1_forms)] ∧ (cD p (sW n D d) (vAdd V ((σ r_Nought1_row))) (fun w k => f_Nought1_forms (sQ n D d + w * sW n D d + k)) (fun w => f_Nought1_leading (sS n D d + w))) ∧ (∀ x, (x < sQ n D d ∨ sQ n D d + sW n D d * sW n D d ≤ x) → f_Nought1_forms x = (σ r_Nought1_forms) x) ∧ (∀ x, (x < sS n D d ∨ sS n D d + sW n D d ≤ x) → f_Nought1_leading x = (σ r_Nought1_leading) x) ∧ (R97 f_Nought1_forms) ∧ (R01 f_Nought1_leading)) := by
  show en_wp k_X3_insert 0 [some (.inr (.inr (r_Nought1, 0))), some (.inl d), none, none, none, none] [] (srl σ []) (fun r σ' => ∃ (f_Nought1_reduced : Int → Int), ∃ (f_Nought1_leading : Int → Int), ∃ (f_Nought1_forms : Int → Int), r = none ∧ σ' = srl σ [(r_Nought1_reduced, f_Nought1_reduced), (r_Nought1_leading, f_Nought1_leading), (r_Nought1_forms, f_Nought1_forms)] ∧ (cD p (sW n D d) (vAdd V ((σ r_Nought1_row))) (fun w k => f_Nought1_forms (sQ n D d + w * sW n D d + k)) (fun w => f_Nought1_leading (sS n D d + w))) ∧ (∀ x, (x < sQ n D d ∨ sQ n D d + sW n D d * sW n D d ≤ x) → f_Nought1_forms x = (σ r_Nought1_forms) x) ∧ (∀ x, (x < sS n D d ∨ sS n D d + sW n D d ≤ x) → f_Nought1_leading x = (σ r_Nought1_leading) x) ∧ (R97 f_Nought1_forms) ∧ (R01 f_Nought1_leading))
  have hI2 := hI
  obtain ⟨hO, hn, hD, hp, hm, hst, hln⟩ := hI2
  obtain ⟨⟨hO1, hO2⟩, ⟨hO3, hO4⟩, hO5, hO6, hO7, hO8⟩ := id hO
  have hWb := sW_b (k := d) hO
  have hSb := sS_b (k := d) hO
  have hp2 := hO.2.2.2.2.1
  have L_124 : ∀ (N : Nat) (l : Int) (w : Int) (s : Int) (X : Int → Int) (Y : Int → Int) (Z : Int → Int) (G : Int → Int), (0 ≤ l ∧ l < sW n D d) → (¬ X l = 0) → (∀ x, l < x → x < sW n D d → X x = 0) → (∀ x, 0 ≤ x → x < sW n D d → X x = nfs (fun w k => σ r_Nought1_forms (sQ n D d + w * sW n D d + k)) (sW n D d) (σ r_Nought1_row) x % p) → ((0 ≤ s ∧ s < p) ∧ mE p (X l * s) (-1)) → (l ≤ w ∧ w ≤ sW n D d) → (Y = seg X 0 l (fun j => (s * X j) % p)) → (Z = up (σ r_Nought1_leading) (sS n D d + l) 1) → (∀ u k, 0 ≤ u → u < sW n D d → 0 ≤ k → k < sW n D d → G (sQ n D d + u * sW n D d + k) = if u < w then (if k < l then (σ r_Nought1_forms (sQ n D d + u * sW n D d + k) + σ r_Nought1_forms (sQ n D d + u * sW n D d + l) * Y k) % p else if k = l then 0 else σ r_Nought1_forms (sQ n D d + u * sW n D d + k)) else σ r_Nought1_forms (sQ n D d + u * sW n D d + k)) → (∀ x, (x < sQ n D d ∨ sQ n D d + sW n D d * sW n D d ≤ x) → G x = σ r_Nought1_forms x) → (R97 G) → (sW n D d - w).toNat < N → en_wp k_X3_insert 124 [some (.inr (.inr (r_Nought1, 0))), some (.inl d), some (.inl (sW n D d)), some (.inl l), some (.inl s), some (.inl w)] [] (srl σ [(r_Nought1_reduced, Y), (r_Nought1_leading, Z), (r_Nought1_forms, G)]) (fun r σ' => ∃ (f_Nought1_reduced : Int → Int), ∃ (f_Nought1_leading : Int → Int), ∃ (f_Nought1_forms : Int → Int), r = none ∧ σ' = srl σ [(r_Nought1_reduced, f_Nought1_reduced), (r_Nought1_leading, f_Nought1_leading), (r_Nought1_forms, f_Nought1_forms)] ∧ (cD p (sW n D d) (vAdd V ((σ r_Nought1_row))) (fun w k => f_Nought1_forms (sQ n D d + w * sW n D d + k)) (fun w => f_Nought1_leading (sS n D d + w))) ∧ (∀ x, (x < sQ n D d ∨ sQ n D d + sW n D d * sW n D d ≤ x) → f_Nought1_forms x = (σ r_Nought1_forms) x) ∧ (∀ x, (x < sS n D d ∨ sS n D d + sW n D d ≤ x) → f_Nought1_leading x = (σ r_Nought1_leading) x) ∧ (R97 f_Nought1_forms) ∧ (R01 f_Nought1_leading)) := by
    intro N
    induction N with
    | zero => intro l w s X Y Z G; intros; omega
    | succ N ih_124 =>
      intro l w s X Y Z G hl hxl hz hX hs hw hY hZ hG hG2 hG3 hN_124
      refine wp_run 2 (pc' := 127) (ls' := [some (.inr (.inr (r_Nought1, 0))), some (.inl d), some (.inl (sW n D d)), some (.inl l), some (.inl s), some (.inl w)]) (st' := [.inl (sW n D d), .inl w]) (σ' := srl σ [(r_Nought1_reduced, Y), (r_Nought1_leading, Z), (r_Nought1_forms, G)]) rfl ?_
      refine wp_ic_ge rfl (by omega) (by omega) (fun h_1 => ?_) (fun h_1 => ?_)
      · show en_wp k_X3_insert 152 [some (.inr (.inr (r_Nought1, 0))), some (.inl d), some (.inl (sW n D d)), some (.inl l), some (.inl s), some (.inl w)] [] (srl σ [(r_Nought1_reduced, Y), (r_Nought1_leading, Z), (r_Nought1_forms, G)]) _
        exact wp_vret rfl ⟨Y, Z, G, rfl, srl_eq (l' := [(r_Nought1_reduced, Y), (r_Nought1_leading, Z), (r_Nought1_forms, G)]) (And.intro rfl (And.intro rfl (And.intro rfl trivial))) (And.intro rfl (And.intro rfl (And.intro rfl trivial))), ⟨ins_yes hO.2.2.2 gcd hX hl hxl hz hs.2 hY hZ (by omega) hG, hG2, fun x h8 => by rw [hZ]; exact up_ne (by omega), hG3, by rw [hZ]; exact R01_up g01 (.inr rfl)⟩⟩
      · show en_wp k_X3_insert 130 [some (.inr (.inr (r_Nought1, 0))), some (.inl d), some (.inl (sW n D d)), some (.inl l), some (.inl s), some (.inl w)] [] (srl σ [(r_Nought1_reduced, Y), (r_Nought1_leading, Z), (r_Nought1_forms, G)]) _
        refine wp_run 4 (pc' := 136) (ls' := [some (.inr (.inr (r_Nought1, 0))), some (.inl d), some (.inl (sW n D d)), some (.inl l), some (.inl s), some (.inl w)]) (st' := [.inl d, .inr (.inr (r_Nought1_formStart, 0)), .inr (.inr (r_Nought1, 0))]) (σ' := srl σ [(r_Nought1_reduced, Y), (r_Nought1_leading, Z), (r_Nought1_forms, G)]) rfl ?_
        refine wp_iald0 rfl rfl (by omega) ?_
        show en_wp k_X3_insert 137 [some (.inr (.inr (r_Nought1, 0))), some (.inl d), some (.inl (sW n D d)), some (.inl l), some (.inl s), some (.inl w)] [.inl (σ r_Nought1_formStart d), .inr (.inr (r_Nought1, 0))] (srl σ [(r_Nought1_reduced, Y), (r_Nought1_leading, Z), (r_Nought1_forms, G)]) _
        refine wp_run 5 (pc' := 143) (ls' := [some (.inr (.inr (r_Nought1, 0))), some (.inl d), some (.inl (sW n D d)), some (.inl l), some (.inl s), some (.inl w)]) (st' := [.inl l, .inl ((σ r_Nought1_formStart d) + (w * (sW n D d))), .inr (.inr (r_Nought1, 0))]) (σ' := srl σ [(r_Nought1_reduced, Y), (r_Nought1_leading, Z), (r_Nought1_forms, G)]) rfl ?_
        have hYr : ∀ k, 0 ≤ k → k < l → 0 ≤ Y k ∧ Y k < 97 := fun k h8 h9 => by
          rw [hY, seg_in0 (by omega)]
          have := @sR_lt p (s * X k) hO.2.2.2
          omega
        have hGr : ∀ k, 0 ≤ k → k < l → 0 ≤ G ((σ r_Nought1_formStart d + w * sW n D d) + k) ∧ G ((σ r_Nought1_formStart d + w * sW n D d) + k) < p := fun k h8 h9 => by
          rw [gst, hG w k (by omega) (by omega) h8 (by omega), if_neg (by omega)]
          exact gcd.1 w k (by omega) (by omega) h8 (by omega)
        have hat := sQ_in hO gd.1 (show 0 ≤ w ∧ w < sW n D d by omega) (show 0 ≤ l ∧ l < sW n D d by omega)
        have hat2 := sQ_in hO gd.1 (show 0 ≤ w ∧ w < sW n D d by omega) (show 0 ≤ 0 ∧ 0 < sW n D d by omega)
        rw [← gst] at hat hat2
        refine wp_callv rfl rfl rfl rfl (ct_X3_replace_Nought1 (srl σ [(r_Nought1_reduced, Y), (r_Nought1_leading, Z), (r_Nought1_forms, G)]) n D p ((σ r_Nought1_formStart d) + (w * (sW n D d))) l hI (by omega) hG3 hYr hGr) ?_
        rintro _ _ ⟨f_2, rfl, rfl, p_3⟩
        have p_3 : f_2 = up (seg (G) ((σ r_Nought1_formStart d) + (w * (sW n D d))) l (fun k => (G (((σ r_Nought1_formStart d) + (w * (sW n D d))) + k) + G (((σ r_Nought1_formStart d) + (w * (sW n D d))) + l) * Y k) % p)) (((σ r_Nought1_formStart d) + (w * (sW n D d))) + l) 0 := p_3
        refine wp_bk (l2 := [(r_Nought1_reduced, Y), (r_Nought1_leading, Z), (r_Nought1_forms, f_2)]) rfl rfl ?_
        show en_wp k_X3_insert 146 [some (.inr (.inr (r_Nought1, 0))), some (.inl d), some (.inl (sW n D d)), some (.inl l), some (.inl s), some (.inl w)] [] (srl σ [(r_Nought1_reduced, Y), (r_Nought1_leading, Z), (r_Nought1_forms, f_2)]) _
        have hrp := p_3
        refine wp_run 2 (pc' := 124) (ls' := [some (.inr (.inr (r_Nought1, 0))), some (.inl d), some (.inl (sW n D d)), some (.inl l), some (.inl s), some (.inl (w + 1))]) (st' := []) (σ' := srl σ [(r_Nought1_reduced, Y), (r_Nought1_leading, Z), (r_Nought1_forms, f_2)]) rfl ?_
        exact ih_124 l (w + 1) s X Y Z f_2 (by omega) hxl hz hX hs (by omega) hY hZ (rp_step (w := w) (W := sW n D d) (Q := sQ n D d) ⟨by omega, by omega⟩ hl (by rw [gst]) hrp hG) (fun x h8 => (rp_out (w := w) (W := sW n D d) (Q := sQ n D d) ⟨by omega, by omega⟩ hl (by rw [gst]) hrp h8).trans (hG2 x h8)) (rp_97 hO.2.2.2 hrp hG3) (by omega)
  have L_69 : ∀ (N : Nat) (l : Int) (k : Int) (s : Int) (X : Int → Int) (Y : Int → Int), (0 ≤ l ∧ l < sW n D d) → (¬ X l = 0) → (∀ x, l < x → x < sW n D d → X x = 0) → (∀ x, 0 ≤ x → x < sW n D d → X x = nfs (fun w k => σ r_Nought1_forms (sQ n D d + w * sW n D d + k)) (sW n D d) (σ r_Nought1_row) x % p) → ((0 ≤ s ∧ s < p) ∧ mE p (X l * s) (-1)) → (0 ≤ k ∧ k ≤ l) → (Y = seg X 0 k (fun j => (s * X j) % p)) → (l - k).toNat < N → en_wp k_X3_insert 69 [some (.inr (.inr (r_Nought1, 0))), some (.inl d), some (.inl (sW n D d)), some (.inl l), some (.inl s), some (.inl k)] [] (srl σ [(r_Nought1_reduced, Y)]) (fun r σ' => ∃ (f_Nought1_reduced : Int → Int), ∃ (f_Nought1_leading : Int → Int), ∃ (f_Nought1_forms : Int → Int), r = none ∧ σ' = srl σ [(r_Nought1_reduced, f_Nought1_reduced), (r_Nought1_leading, f_Nought1_leading), (r_Nought1_forms, f_Nought1_forms)] ∧ (cD p (sW n D d) (vAdd V ((σ r_Nought1_row))) (fun w k => f_Nought1_forms (sQ n D d + w * sW n D d + k)) (fun w => f_Nought1_leading (sS n D d + w))) ∧ (∀ x, (x < sQ n D d ∨ sQ n D d + sW n D d * sW n D d ≤ x) → f_Nought1_forms x = (σ r_Nought1_forms) x) ∧ (∀ x, (x < sS n D d ∨ sS n D d + sW n D d ≤ x) → f_Nought1_leading x = (σ r_Nought1_leading) x) ∧ (R97 f_Nought1_forms) ∧ (R01 f_Nought1_leading)) := by
    intro N
    induction N with
    | zero => intro l k s X Y; intros; omega
    | succ N ih_69 =>
      intro l k s X Y hl hxl hz hX hs hk hY hN_69
      refine wp_run 2 (pc' := 72) (ls' := [some (.inr (.inr (r_Nought1, 0))), some (.inl d), some (.inl (sW n D d)), some (.inl l), some (.inl s), some (.inl k)]) (st' := [.inl l, .inl k]) (σ' := srl σ [(r_Nought1_reduced, Y)]) rfl ?_
      refine wp_ic_ge rfl (by omega) (by omega) (fun h_4 => ?_) (fun h_4 => ?_)
      · show en_wp k_X3_insert 105 [some (.inr (.inr (r_Nought1, 0))), some (.inl d), some (.inl (sW n D d)), some (.inl l), some (.inl s), some (.inl k)] [] (srl σ [(r_Nought1_reduced, Y)]) _
        refine wp_run 5 (pc' := 114) (ls' := [some (.inr (.inr (r_Nought1, 0))), some (.inl d), some (.inl (sW n D d)), some (.inl l), some (.inl s), some (.inl k)]) (st' := [.inl d, .inr (.inr (r_Shape0, 0)), .inr (.inr (r_Nought1_leading, 0))]) (σ' := srl σ [(r_Nought1_reduced, Y)]) rfl ?_
        refine wp_fnv (v := .inl (sS n D d)) rfl rfl rfl rfl (ct_X5_startOf_Shape0_p (srl σ [(r_Nought1_reduced, Y)]) n D p d hI (by omega)) ?_
        show en_wp k_X3_insert 117 [some (.inr (.inr (r_Nought1, 0))), some (.inl d), some (.inl (sW n D d)), some (.inl l), some (.inl s), some (.inl k)] [.inl (sS n D d), .inr (.inr (r_Nought1_leading, 0))] (srl σ [(r_Nought1_reduced, Y)]) _
        have q_5 : 0 ≤ sS n D d ∧ sS n D d ≤ 364 := sS_b hO
        refine wp_run 3 (pc' := 120) (ls' := [some (.inr (.inr (r_Nought1, 0))), some (.inl d), some (.inl (sW n D d)), some (.inl l), some (.inl s), some (.inl k)]) (st' := [.inl 1, .inl ((sS n D d) + l), .inr (.inr (r_Nought1_leading, 0))]) (σ' := srl σ [(r_Nought1_reduced, Y)]) rfl ?_
        have hsw := sS_word hO gd.1 hl
        refine wp_bast0 rfl rfl (by omega) (by omega) (wp_wr (l2 := [(r_Nought1_reduced, Y), (r_Nought1_leading, (up (σ r_Nought1_leading) ((sS n D d) + l) 1))]) rfl ?_)
        show en_wp k_X3_insert 121 [some (.inr (.inr (r_Nought1, 0))), some (.inl d), some (.inl (sW n D d)), some (.inl l), some (.inl s), some (.inl k)] [] (srl σ [(r_Nought1_reduced, Y), (r_Nought1_leading, (up (σ r_Nought1_leading) ((sS n D d) + l) 1))]) _
        refine wp_run 2 (pc' := 124) (ls' := [some (.inr (.inr (r_Nought1, 0))), some (.inl d), some (.inl (sW n D d)), some (.inl l), some (.inl s), some (.inl l)]) (st' := []) (σ' := srl σ [(r_Nought1_reduced, Y), (r_Nought1_leading, (up (σ r_Nought1_leading) ((sS n D d) + l) 1))]) rfl ?_
        refine wp_mem (srl_eq (l' := [(r_Nought1_reduced, Y), (r_Nought1_leading, (up (σ r_Nought1_leading) ((sS n D d) + l) 1)), (r_Nought1_forms, (σ r_Nought1_forms))]) (And.intro rfl (And.intro rfl trivial)) (And.intro rfl (And.intro rfl (And.intro rfl trivial)))) ?_
        exact L_124 _ l l s X Y (up (σ r_Nought1_leading) ((sS n D d) + l) 1) (σ r_Nought1_forms) (by omega) hxl hz hX hs (by omega) (by rw [hY, show k = l by omega]) rfl (ins_G0 gcd hl) (fun _ _ => rfl) gfm (Nat.lt_succ_self _)
      · show en_wp k_X3_insert 75 [some (.inr (.inr (r_Nought1, 0))), some (.inl d), some (.inl (sW n D d)), some (.inl l), some (.inl s), some (.inl k)] [] (srl σ [(r_Nought1_reduced, Y)]) _
        refine wp_run 9 (pc' := 93) (ls' := [some (.inr (.inr (r_Nought1, 0))), some (.inl d), some (.inl (sW n D d)), some (.inl l), some (.inl s), some (.inl k)]) (st' := [.inl k, .inr (.inr (r_Nought1_reduced, 0)), .inl s, .inr (.inr (r_Shape0, 0)), .inl k, .inr (.inr (r_Nought1_reduced, 0))]) (σ' := srl σ [(r_Nought1_reduced, Y)]) rfl ?_
        refine wp_iald0 rfl rfl (by omega) ?_
        show en_wp k_X3_insert 94 [some (.inr (.inr (r_Nought1, 0))), some (.inl d), some (.inl (sW n D d)), some (.inl l), some (.inl s), some (.inl k)] [.inl (Y k), .inl s, .inr (.inr (r_Shape0, 0)), .inl k, .inr (.inr (r_Nought1_reduced, 0))] (srl σ [(r_Nought1_reduced, Y)]) _
        refine wp_run 1 (pc' := 95) (ls' := [some (.inr (.inr (r_Nought1, 0))), some (.inl d), some (.inl (sW n D d)), some (.inl l), some (.inl s), some (.inl k)]) (st' := [.inl (s * (Y k)), .inr (.inr (r_Shape0, 0)), .inl k, .inr (.inr (r_Nought1_reduced, 0))]) (σ' := srl σ [(r_Nought1_reduced, Y)]) rfl ?_
        have hYk : Y k = X k := by rw [hY]; exact seg_out (by omega)
        have hXk : 0 ≤ X k ∧ X k < p := by rw [hX k (by omega) (by omega)]; exact sR_lt hO.2.2.2
        have hm1 := m97 (a := s) (b := Y k) (by omega) (by omega)
        refine wp_fnv (v := .inl ((s * (Y k)) % p)) rfl rfl rfl rfl (ct_X5_rest_Shape0 (srl σ [(r_Nought1_reduced, Y)]) n D p (s * (Y k)) hI (by omega)) ?_
        show en_wp k_X3_insert 98 [some (.inr (.inr (r_Nought1, 0))), some (.inl d), some (.inl (sW n D d)), some (.inl l), some (.inl s), some (.inl k)] [.inl ((s * (Y k)) % p), .inl k, .inr (.inr (r_Nought1_reduced, 0))] (srl σ [(r_Nought1_reduced, Y)]) _
        have q_6 : 0 ≤ (s * (Y k)) % p ∧ (s * (Y k)) % p < p := sR_lt hO.2.2.2
        refine wp_iast0 rfl rfl (by omega) (wp_wr (l2 := [(r_Nought1_reduced, (up Y k ((s * (Y k)) % p)))]) rfl ?_)
        show en_wp k_X3_insert 99 [some (.inr (.inr (r_Nought1, 0))), some (.inl d), some (.inl (sW n D d)), some (.inl l), some (.inl s), some (.inl k)] [] (srl σ [(r_Nought1_reduced, (up Y k ((s * (Y k)) % p)))]) _
        refine wp_run 2 (pc' := 69) (ls' := [some (.inr (.inr (r_Nought1, 0))), some (.inl d), some (.inl (sW n D d)), some (.inl l), some (.inl s), some (.inl (k + 1))]) (st' := []) (σ' := srl σ [(r_Nought1_reduced, (up Y k ((s * (Y k)) % p)))]) rfl ?_
        exact ih_69 l (k + 1) s X (up Y k ((s * (Y k)) % p)) (by omega) hxl hz hX hs (by omega) (by rw [hYk, hY]; exact seg_up0 hk.1 rfl) (by omega)
  have L_38 : ∀ (N : Nat) (l : Int) (X : Int → Int), ((l = -1 ∧ ∀ x, 0 ≤ x → x < sW n D d → X x = 0) ∨ ((0 ≤ l ∧ l < sW n D d) ∧ ¬ X l = 0 ∧ ∀ x, l < x → x < sW n D d → X x = 0)) → (∀ x, 0 ≤ x → x < sW n D d → X x = nfs (fun w k => σ r_Nought1_forms (sQ n D d + w * sW n D d + k)) (sW n D d) (σ r_Nought1_row) x % p) → ((0 : Int)).toNat < N → en_wp k_X3_insert 38 [some (.inr (.inr (r_Nought1, 0))), some (.inl d), some (.inl (sW n D d)), some (.inl l), none, none] [] (srl σ [(r_Nought1_reduced, X)]) (fun r σ' => ∃ (f_Nought1_reduced : Int → Int), ∃ (f_Nought1_leading : Int → Int), ∃ (f_Nought1_forms : Int → Int), r = none ∧ σ' = srl σ [(r_Nought1_reduced, f_Nought1_reduced), (r_Nought1_leading, f_Nought1_leading), (r_Nought1_forms, f_Nought1_forms)] ∧ (cD p (sW n D d) (vAdd V ((σ r_Nought1_row))) (fun w k => f_Nought1_forms (sQ n D d + w * sW n D d + k)) (fun w => f_Nought1_leading (sS n D d + w))) ∧ (∀ x, (x < sQ n D d ∨ sQ n D d + sW n D d * sW n D d ≤ x) → f_Nought1_forms x = (σ r_Nought1_forms) x) ∧ (∀ x, (x < sS n D d ∨ sS n D d + sW n D d ≤ x) → f_Nought1_leading x = (σ r_Nought1_leading) x) ∧ (R97 f_Nought1_forms) ∧ (R01 f_Nought1_leading)) := by
    intro N
    induction N with
    | zero => intro l X; intros; omega
    | succ N ih_38 =>
      intro l X hj hX hN_38
      refine wp_run 1 (pc' := 39) (ls' := [some (.inr (.inr (r_Nought1, 0))), some (.inl d), some (.inl (sW n D d)), some (.inl l), none, none]) (st' := [.inl l]) (σ' := srl σ [(r_Nought1_reduced, X)]) rfl ?_
      refine wp_if_ge rfl (by omega) (fun h_7 => ?_) (fun h_7 => ?_)
      · rcases hj with ⟨h8, _⟩ | ⟨hl0, hxl, hz⟩
        · exfalso; omega
        show en_wp k_X3_insert 43 [some (.inr (.inr (r_Nought1, 0))), some (.inl d), some (.inl (sW n D d)), some (.inl l), none, none] [] (srl σ [(r_Nought1_reduced, X)]) _
        refine wp_run 7 (pc' := 56) (ls' := [some (.inr (.inr (r_Nought1, 0))), some (.inl d), some (.inl (sW n D d)), some (.inl l), none, none]) (st' := [.inl l, .inr (.inr (r_Nought1_reduced, 0)), .inr (.inr (r_Shape0, 0)), .inr (.inr (r_Shape0, 0))]) (σ' := srl σ [(r_Nought1_reduced, X)]) rfl ?_
        refine wp_iald0 rfl rfl (by omega) ?_
        show en_wp k_X3_insert 57 [some (.inr (.inr (r_Nought1, 0))), some (.inl d), some (.inl (sW n D d)), some (.inl l), none, none] [.inl (X l), .inr (.inr (r_Shape0, 0)), .inr (.inr (r_Shape0, 0))] (srl σ [(r_Nought1_reduced, X)]) _
        have hXl : 0 ≤ X l ∧ X l < p := by rw [hX l (by omega) (by omega)]; exact sR_lt hO.2.2.2
        refine wp_callv rfl rfl rfl rfl (ct_X5_inverseOf_Shape0 (srl σ [(r_Nought1_reduced, X)]) n D p (X l) hI (by omega)) ?_
        rintro _ _ ⟨r_8, rfl, rfl, p_9⟩
        have p_9 : 1 ≤ r_8 ∧ r_8 < p ∧ (r_8 * (X l)) % p = 1 := p_9
        show en_wp k_X3_insert 60 [some (.inr (.inr (r_Nought1, 0))), some (.inl d), some (.inl (sW n D d)), some (.inl l), none, none] [.inl r_8, .inr (.inr (r_Shape0, 0))] (srl σ [(r_Nought1_reduced, X)]) _
        have hinv := p_9
        refine wp_run 1 (pc' := 61) (ls' := [some (.inr (.inr (r_Nought1, 0))), some (.inl d), some (.inl (sW n D d)), some (.inl l), none, none]) (st' := [.inl (-r_8), .inr (.inr (r_Shape0, 0))]) (σ' := srl σ [(r_Nought1_reduced, X)]) rfl ?_
        refine wp_fnv (v := .inl ((-r_8) % p)) rfl rfl rfl rfl (ct_X5_rest_Shape0 (srl σ [(r_Nought1_reduced, X)]) n D p (-r_8) hI (by omega)) ?_
        show en_wp k_X3_insert 64 [some (.inr (.inr (r_Nought1, 0))), some (.inl d), some (.inl (sW n D d)), some (.inl l), none, none] [.inl ((-r_8) % p)] (srl σ [(r_Nought1_reduced, X)]) _
        have q_10 : 0 ≤ (-r_8) % p ∧ (-r_8) % p < p := sR_lt hO.2.2.2
        refine wp_run 3 (pc' := 69) (ls' := [some (.inr (.inr (r_Nought1, 0))), some (.inl d), some (.inl (sW n D d)), some (.inl l), some (.inl ((-r_8) % p)), some (.inl 0)]) (st' := []) (σ' := srl σ [(r_Nought1_reduced, X)]) rfl ?_
        exact L_69 _ l 0 ((-r_8) % p) X X (by omega) hxl hz hX ⟨by omega, ins_s hO.2.2.2 hinv.2.2⟩ (by omega) (seg_0 _ _ _).symm (Nat.lt_succ_self _)
      · rcases hj with ⟨h8, hz⟩ | ⟨hl0, hxl, hz⟩
        rotate_left
        · exfalso; omega
        show en_wp k_X3_insert 42 [some (.inr (.inr (r_Nought1, 0))), some (.inl d), some (.inl (sW n D d)), some (.inl l), none, none] [] (srl σ [(r_Nought1_reduced, X)]) _
        exact wp_vret rfl ⟨X, (σ r_Nought1_leading), (σ r_Nought1_forms), rfl, srl_eq (l' := [(r_Nought1_reduced, X), (r_Nought1_leading, σ r_Nought1_leading), (r_Nought1_forms, σ r_Nought1_forms)]) (And.intro rfl trivial) (And.intro rfl (And.intro rfl (And.intro rfl trivial))), ⟨ins_no gcd hX hz, fun _ _ => rfl, fun _ _ => rfl, gfm, g01⟩⟩
  have L_19 : ∀ (N : Nat) (l : Int) (X : Int → Int), (-1 ≤ l ∧ l < sW n D d) → (∀ x, l < x → x < sW n D d → X x = 0) → (∀ x, 0 ≤ x → x < sW n D d → X x = nfs (fun w k => σ r_Nought1_forms (sQ n D d + w * sW n D d + k)) (sW n D d) (σ r_Nought1_row) x % p) → (l + 1).toNat < N → en_wp k_X3_insert 19 [some (.inr (.inr (r_Nought1, 0))), some (.inl d), some (.inl (sW n D d)), some (.inl l), none, none] [] (srl σ [(r_Nought1_reduced, X)]) (fun r σ' => ∃ (f_Nought1_reduced : Int → Int), ∃ (f_Nought1_leading : Int → Int), ∃ (f_Nought1_forms : Int → Int), r = none ∧ σ' = srl σ [(r_Nought1_reduced, f_Nought1_reduced), (r_Nought1_leading, f_Nought1_leading), (r_Nought1_forms, f_Nought1_forms)] ∧ (cD p (sW n D d) (vAdd V ((σ r_Nought1_row))) (fun w k => f_Nought1_forms (sQ n D d + w * sW n D d + k)) (fun w => f_Nought1_leading (sS n D d + w))) ∧ (∀ x, (x < sQ n D d ∨ sQ n D d + sW n D d * sW n D d ≤ x) → f_Nought1_forms x = (σ r_Nought1_forms) x) ∧ (∀ x, (x < sS n D d ∨ sS n D d + sW n D d ≤ x) → f_Nought1_leading x = (σ r_Nought1_leading) x) ∧ (R97 f_Nought1_forms) ∧ (R01 f_Nought1_leading)) := by
    intro N
    induction N with
    | zero => intro l X; intros; omega
    | succ N ih_19 =>
      intro l X hl hz hX hN_19
      refine wp_run 1 (pc' := 20) (ls' := [some (.inr (.inr (r_Nought1, 0))), some (.inl d), some (.inl (sW n D d)), some (.inl l), none, none]) (st' := [.inl l]) (σ' := srl σ [(r_Nought1_reduced, X)]) rfl ?_
      refine wp_if_lt rfl (by omega) (fun h_11 => ?_) (fun h_11 => ?_)
      · show en_wp k_X3_insert 38 [some (.inr (.inr (r_Nought1, 0))), some (.inl d), some (.inl (sW n D d)), some (.inl l), none, none] [] (srl σ [(r_Nought1_reduced, X)]) _
        exact L_38 _ l X (by first | exact .inl ⟨by omega, fun x h8 h9 => hz x (by omega) h9⟩ | exact .inr ⟨by omega, by assumption, hz⟩) hX (Nat.lt_succ_self _)
      · show en_wp k_X3_insert 23 [some (.inr (.inr (r_Nought1, 0))), some (.inl d), some (.inl (sW n D d)), some (.inl l), none, none] [] (srl σ [(r_Nought1_reduced, X)]) _
        refine wp_run 3 (pc' := 28) (ls' := [some (.inr (.inr (r_Nought1, 0))), some (.inl d), some (.inl (sW n D d)), some (.inl l), none, none]) (st' := [.inl l, .inr (.inr (r_Nought1_reduced, 0))]) (σ' := srl σ [(r_Nought1_reduced, X)]) rfl ?_
        refine wp_iald0 rfl rfl (by omega) ?_
        show en_wp k_X3_insert 29 [some (.inr (.inr (r_Nought1, 0))), some (.inl d), some (.inl (sW n D d)), some (.inl l), none, none] [.inl (X l)] (srl σ [(r_Nought1_reduced, X)]) _
        have hXl : 0 ≤ X l ∧ X l < p := by rw [hX l (by omega) (by omega)]; exact sR_lt hO.2.2.2
        refine wp_if_ne rfl (by omega) (fun h_12 => ?_) (fun h_12 => ?_)
        · show en_wp k_X3_insert 38 [some (.inr (.inr (r_Nought1, 0))), some (.inl d), some (.inl (sW n D d)), some (.inl l), none, none] [] (srl σ [(r_Nought1_reduced, X)]) _
          exact L_38 _ l X (by first | exact .inl ⟨by omega, fun x h8 h9 => hz x (by omega) h9⟩ | exact .inr ⟨by omega, by assumption, hz⟩) hX (Nat.lt_succ_self _)
        · show en_wp k_X3_insert 32 [some (.inr (.inr (r_Nought1, 0))), some (.inl d), some (.inl (sW n D d)), some (.inl l), none, none] [] (srl σ [(r_Nought1_reduced, X)]) _
          refine wp_run 2 (pc' := 19) (ls' := [some (.inr (.inr (r_Nought1, 0))), some (.inl d), some (.inl (sW n D d)), some (.inl (l + (-1))), none, none]) (st' := []) (σ' := srl σ [(r_Nought1_reduced, X)]) rfl ?_
          exact ih_19 (l + (-1)) X (by omega) (by intro x h8 h9; rcases Int.lt_or_eq_of_le (show l ≤ x by omega) with h7 | h7 <;> first | exact hz x h7 h9 | (rw [← h7]; assumption)) hX (by omega)
  refine wp_run 3 (pc' := 5) (ls' := [some (.inr (.inr (r_Nought1, 0))), some (.inl d), none, none, none, none]) (st' := [.inl d, .inr (.inr (r_Shape0, 0))]) (σ' := srl σ []) rfl ?_
  refine wp_fnv (v := .inl (sW n D d)) rfl rfl rfl rfl (ct_X5_wordsOf_Shape0 σ n D p d hI (by omega)) ?_
  show en_wp k_X3_insert 8 [some (.inr (.inr (r_Nought1, 0))), some (.inl d), none, none, none, none] [.inl (sW n D d)] (srl σ []) _
  have q_13 : 0 ≤ sW n D d ∧ sW n D d ≤ 256 := sW_b hO
  refine wp_run 4 (pc' := 12) (ls' := [some (.inr (.inr (r_Nought1, 0))), some (.inl d), some (.inl (sW n D d)), none, none, none]) (st' := [.inl (sW n D d), .inl d, .inr (.inr (r_Nought1, 0))]) (σ' := srl σ []) rfl ?_
  refine wp_callv rfl rfl rfl rfl (ct_X3_reduce_Nought1 σ n D p d (sW n D d) hI (by omega) (by omega) gst grow gfm gcd.2.1) ?_
  rintro _ _ ⟨f_14, rfl, rfl, p_15⟩
  have p_15 : ∀ x, 0 ≤ x → x < sW n D d → f_14 x = nfs (fun w k => (σ r_Nought1_forms) (sQ n D d + w * sW n D d + k)) (sW n D d) ((σ r_Nought1_row)) x % p := p_15
  show en_wp k_X3_insert 15 [some (.inr (.inr (r_Nought1, 0))), some (.inl d), some (.inl (sW n D d)), none, none, none] [] (srl σ [(r_Nought1_reduced, f_14)]) _
  have hred := p_15
  refine wp_run 4 (pc' := 19) (ls' := [some (.inr (.inr (r_Nought1, 0))), some (.inl d), some (.inl (sW n D d)), some (.inl ((sW n D d) - 1)), none, none]) (st' := []) (σ' := srl σ [(r_Nought1_reduced, f_14)]) rfl ?_
  exact L_19 _ ((sW n D d) - 1) f_14 (by omega) (fun x h8 h9 => by omega) hred (Nat.lt_succ_self _)
