/-! contracts of methods, walked (written by wip/whole/walk.py from the annotations ann_m26) -/
set_option maxRecDepth 8000 in
theorem ct_X12_left (σ : en_m) (n : Int) (D : Int) (p : Int) (m : Int) (hI : mI σ n D p) (h1 : i32 m) (hlead : R01 ((σ r_Md_leads))) (hlf : R01 ((σ r_Md_isLeft))) (hsz : ∀ k, 0 ≤ k → k ≤ D → 0 ≤ (σ r_Md_sizes) k ∧ (σ r_Md_sizes) k ≤ 256) : en_ct z_X12_left [.inr (.inr (r_Md, 0)), .inl m] σ (fun r σ' => ∃ (v_Md_placeLetters : Int → Int), ∃ (f_Md_isLeft : Int → Int), ∃ (f_Md_ways : Int → Int), ∃ (f_Md_waysThen : Int → Int), ∃ (rr : Int), r = some (.inr (.inl rr)) ∧ σ' = srl σ [(r_Md_placeLetters, v_Md_placeLetters), (r_Md_isLeft, f_Md_isLeft), (r_Md_ways, f_Md_ways), (r_Md_waysThen, f_Md_waysThen)] ∧ ((¬ (0 ≤ m ∧ m ≤ 60) ∧ rr = -1) ∨ ((0 ≤ m ∧ m ≤ 60) ∧ ((m ≤ D ∧ rr = (σ r_Md_sizes) m) ∨ (D < m ∧ ∃ q, isPL ((σ r_Md_leads)) n D q ∧ rr = smS (wy ((σ r_Md_leads)) n D q (m - q).toNat) (sW n D q).toNat)))) ∧ (R01 f_Md_isLeft)) := by
  show en_wp k_X12_left 0 [some (.inr (.inr (r_Md, 0))), some (.inl m), none, none, none, none] [] (srl σ []) (fun r σ' => ∃ (v_Md_placeLetters : Int → Int), ∃ (f_Md_isLeft : Int → Int), ∃ (f_Md_ways : Int → Int), ∃ (f_Md_waysThen : Int → Int), ∃ (rr : Int), r = some (.inr (.inl rr)) ∧ σ' = srl σ [(r_Md_placeLetters, v_Md_placeLetters), (r_Md_isLeft, f_Md_isLeft), (r_Md_ways, f_Md_ways), (r_Md_waysThen, f_Md_waysThen)] ∧ ((¬ (0 ≤ m ∧ m ≤ 60) ∧ rr = -1) ∨ ((0 ≤ m ∧ m ≤ 60) ∧ ((m ≤ D ∧ rr = (σ r_Md_sizes) m) ∨ (D < m ∧ ∃ q, isPL ((σ r_Md_leads)) n D q ∧ rr = smS (wy ((σ r_Md_leads)) n D q (m - q).toNat) (sW n D q).toNat)))) ∧ (R01 f_Md_isLeft))
  have hI2 := hI
  obtain ⟨hO, hL, hn, hD, hp, hpw, hst⟩ := hI2
  obtain ⟨⟨hO1, hO2⟩, ⟨hO3, hO4⟩, hO5, hO6, hO7, hO8⟩ := id hO
  have L_250 : ∀ (N : Nat) (s : Int) (w : Int) (QV : Int → Int) (IL : Int → Int) (F : Int → Int) (G : Int → Int), (D < m ∧ m ≤ 60) → (isPL (σ r_Md_leads) n D (QV 0)) → ((∀ w, 0 ≤ w → w < sW n D (QV 0) → IL w = bI (σ r_Md_leads (sS n D (QV 0) + w) = 0)) ∧ R01 IL) → (0 ≤ w ∧ w ≤ sW n D (QV 0)) → (∀ t, 0 ≤ t → t < sW n D (QV 0) → F t = wy (σ r_Md_leads) n D (QV 0) (m - QV 0).toNat t) → (s = smS (wy (σ r_Md_leads) n D (QV 0) (m - QV 0).toNat) w.toNat) → (sW n D (QV 0) - w).toNat < N → en_wp k_X12_left 250 [some (.inr (.inr (r_Md, 0))), none, some (.inr (.inl s)), none, some (.inl w), none] [] (srl σ [(r_Md_placeLetters, QV), (r_Md_isLeft, IL), (r_Md_ways, F), (r_Md_waysThen, G)]) (fun r σ' => ∃ (v_Md_placeLetters : Int → Int), ∃ (f_Md_isLeft : Int → Int), ∃ (f_Md_ways : Int → Int), ∃ (f_Md_waysThen : Int → Int), ∃ (rr : Int), r = some (.inr (.inl rr)) ∧ σ' = srl σ [(r_Md_placeLetters, v_Md_placeLetters), (r_Md_isLeft, f_Md_isLeft), (r_Md_ways, f_Md_ways), (r_Md_waysThen, f_Md_waysThen)] ∧ ((¬ (0 ≤ m ∧ m ≤ 60) ∧ rr = -1) ∨ ((0 ≤ m ∧ m ≤ 60) ∧ ((m ≤ D ∧ rr = (σ r_Md_sizes) m) ∨ (D < m ∧ ∃ q, isPL ((σ r_Md_leads)) n D q ∧ rr = smS (wy ((σ r_Md_leads)) n D q (m - q).toNat) (sW n D q).toNat)))) ∧ (R01 f_Md_isLeft)) := by
    intro N
    induction N with
    | zero => intro s w QV IL F G; intros; omega
    | succ N ih_250 =>
      intro s w QV IL F G hm hq hIL hw hF hs hN_250
      have hqb := isPL_b hq hO3
      have hWq := sW_b (k := QV 0) hO
      have hsb : inL s := by rw [hs]; exact smS_b (wy_b _) _
      refine wp_run 4 (pc' := 257) (ls' := [some (.inr (.inr (r_Md, 0))), none, some (.inr (.inl s)), none, some (.inl w), none]) (st' := [.inl (QV 0), .inr (.inr (r_Md, 0)), .inl w]) (σ' := srl σ [(r_Md_placeLetters, QV), (r_Md_isLeft, IL), (r_Md_ways, F), (r_Md_waysThen, G)]) rfl ?_
      refine wp_fnv (v := .inl (sW n D (QV 0))) rfl rfl rfl rfl (ct_X12_wide (srl σ [(r_Md_placeLetters, QV), (r_Md_isLeft, IL), (r_Md_ways, F), (r_Md_waysThen, G)]) n D p (QV 0) hI (by omega)) ?_
      show en_wp k_X12_left 260 [some (.inr (.inr (r_Md, 0))), none, some (.inr (.inl s)), none, some (.inl w), none] [.inl (sW n D (QV 0)), .inl w] (srl σ [(r_Md_placeLetters, QV), (r_Md_isLeft, IL), (r_Md_ways, F), (r_Md_waysThen, G)]) _
      have q_1 : 0 ≤ sW n D (QV 0) ∧ sW n D (QV 0) ≤ 256 := sW_b hO
      refine wp_ic_ge rfl (by omega) (by omega) (fun h_2 => ?_) (fun h_2 => ?_)
      · show en_wp k_X12_left 281 [some (.inr (.inr (r_Md, 0))), none, some (.inr (.inl s)), none, some (.inl w), none] [] (srl σ [(r_Md_placeLetters, QV), (r_Md_isLeft, IL), (r_Md_ways, F), (r_Md_waysThen, G)]) _
        refine wp_run 1 (pc' := 282) (ls' := [some (.inr (.inr (r_Md, 0))), none, some (.inr (.inl s)), none, some (.inl w), none]) (st' := [.inr (.inl s)]) (σ' := srl σ [(r_Md_placeLetters, QV), (r_Md_isLeft, IL), (r_Md_ways, F), (r_Md_waysThen, G)]) rfl ?_
        exact wp_lret rfl ⟨QV, IL, F, G, s, rfl, srl_eq (l' := [(r_Md_placeLetters, QV), (r_Md_isLeft, IL), (r_Md_ways, F), (r_Md_waysThen, G)]) (And.intro rfl (And.intro rfl (And.intro rfl (And.intro rfl trivial)))) (And.intro rfl (And.intro rfl (And.intro rfl (And.intro rfl trivial)))), ⟨.inr ⟨by omega, .inr ⟨hm.1, QV 0, hq, by rw [hs, show w = sW n D (QV 0) by omega]⟩⟩, hIL.2⟩⟩
      · show en_wp k_X12_left 263 [some (.inr (.inr (r_Md, 0))), none, some (.inr (.inl s)), none, some (.inl w), none] [] (srl σ [(r_Md_placeLetters, QV), (r_Md_isLeft, IL), (r_Md_ways, F), (r_Md_waysThen, G)]) _
        refine wp_run 4 (pc' := 270) (ls' := [some (.inr (.inr (r_Md, 0))), none, some (.inr (.inl s)), none, some (.inl w), none]) (st' := [.inl w, .inr (.inr (r_Md_ways, 0)), .inr (.inl s)]) (σ' := srl σ [(r_Md_placeLetters, QV), (r_Md_isLeft, IL), (r_Md_ways, F), (r_Md_waysThen, G)]) rfl ?_
        refine wp_lald0 rfl rfl (by omega) ?_
        show en_wp k_X12_left 271 [some (.inr (.inr (r_Md, 0))), none, some (.inr (.inl s)), none, some (.inl w), none] [.inr (.inl (F w)), .inr (.inl s)] (srl σ [(r_Md_placeLetters, QV), (r_Md_isLeft, IL), (r_Md_ways, F), (r_Md_waysThen, G)]) _
        have hFw : inL (F w) := by rw [hF w hw.1 (by omega)]; exact wy_b _ _
        refine wp_fns (v := .inr (.inl (sat s (F w)))) rfl rfl rfl rfl rfl (ct_X12_more (srl σ [(r_Md_placeLetters, QV), (r_Md_isLeft, IL), (r_Md_ways, F), (r_Md_waysThen, G)]) s (F w) (by omega) (by omega)) ?_
        show en_wp k_X12_left 274 [some (.inr (.inr (r_Md, 0))), none, some (.inr (.inl s)), none, some (.inl w), none] [.inr (.inl (sat s (F w)))] (srl σ [(r_Md_placeLetters, QV), (r_Md_isLeft, IL), (r_Md_ways, F), (r_Md_waysThen, G)]) _
        refine wp_run 3 (pc' := 250) (ls' := [some (.inr (.inr (r_Md, 0))), none, some (.inr (.inl (sat s (F w)))), none, some (.inl (w + 1)), none]) (st' := []) (σ' := srl σ [(r_Md_placeLetters, QV), (r_Md_isLeft, IL), (r_Md_ways, F), (r_Md_waysThen, G)]) rfl ?_
        exact ih_250 (sat s (F w)) (w + 1) QV IL F G (by omega) hq hIL (by omega) hF (by rw [hs, smS_s hw.1, hF w hw.1 (by omega)]) (by omega)
  have L_84 : ∀ (N : Nat) (k : Int) (QV : Int → Int) (IL : Int → Int) (F : Int → Int) (G : Int → Int), (D < m ∧ m ≤ 60) → (isPL (σ r_Md_leads) n D (QV 0)) → ((∀ w, 0 ≤ w → w < sW n D (QV 0) → IL w = bI (σ r_Md_leads (sS n D (QV 0) + w) = 0)) ∧ R01 IL) → (QV 0 ≤ k ∧ k ≤ m) → (∀ t, 0 ≤ t → t < sW n D (QV 0) → F t = wy (σ r_Md_leads) n D (QV 0) (k - QV 0).toNat t) → (m - k).toNat < N → en_wp k_X12_left 84 [some (.inr (.inr (r_Md, 0))), some (.inl m), some (.inl k), none, none, none] [] (srl σ [(r_Md_placeLetters, QV), (r_Md_isLeft, IL), (r_Md_ways, F), (r_Md_waysThen, G)]) (fun r σ' => ∃ (v_Md_placeLetters : Int → Int), ∃ (f_Md_isLeft : Int → Int), ∃ (f_Md_ways : Int → Int), ∃ (f_Md_waysThen : Int → Int), ∃ (rr : Int), r = some (.inr (.inl rr)) ∧ σ' = srl σ [(r_Md_placeLetters, v_Md_placeLetters), (r_Md_isLeft, f_Md_isLeft), (r_Md_ways, f_Md_ways), (r_Md_waysThen, f_Md_waysThen)] ∧ ((¬ (0 ≤ m ∧ m ≤ 60) ∧ rr = -1) ∨ ((0 ≤ m ∧ m ≤ 60) ∧ ((m ≤ D ∧ rr = (σ r_Md_sizes) m) ∨ (D < m ∧ ∃ q, isPL ((σ r_Md_leads)) n D q ∧ rr = smS (wy ((σ r_Md_leads)) n D q (m - q).toNat) (sW n D q).toNat)))) ∧ (R01 f_Md_isLeft)) := by
    intro N
    induction N with
    | zero => intro k QV IL F G; intros; omega
    | succ N ih_84 =>
      intro k QV IL F G hm hq hIL hk hF hN_84
      have hqb := isPL_b hq hO3
      have hWq := sW_b (k := QV 0) hO
      have L_209 : ∀ (N : Nat) (w : Int) (F2 : Int → Int) (G : Int → Int), (k < m) → (0 ≤ w ∧ w ≤ sW n D (QV 0)) → (∀ t, 0 ≤ t → t < sW n D (QV 0) → G t = gW (σ r_Md_leads) n D (QV 0) (wy (σ r_Md_leads) n D (QV 0) (k - QV 0).toNat) (sW n D (QV 0)).toNat t) → (∀ t, 0 ≤ t → t < w → F2 t = G t) → (sW n D (QV 0) - w).toNat < N → en_wp k_X12_left 209 [some (.inr (.inr (r_Md, 0))), some (.inl m), some (.inl k), some (.inl w), none, none] [] (srl σ [(r_Md_placeLetters, QV), (r_Md_isLeft, IL), (r_Md_ways, F2), (r_Md_waysThen, G)]) (fun r σ' => ∃ (v_Md_placeLetters : Int → Int), ∃ (f_Md_isLeft : Int → Int), ∃ (f_Md_ways : Int → Int), ∃ (f_Md_waysThen : Int → Int), ∃ (rr : Int), r = some (.inr (.inl rr)) ∧ σ' = srl σ [(r_Md_placeLetters, v_Md_placeLetters), (r_Md_isLeft, f_Md_isLeft), (r_Md_ways, f_Md_ways), (r_Md_waysThen, f_Md_waysThen)] ∧ ((¬ (0 ≤ m ∧ m ≤ 60) ∧ rr = -1) ∨ ((0 ≤ m ∧ m ≤ 60) ∧ ((m ≤ D ∧ rr = (σ r_Md_sizes) m) ∨ (D < m ∧ ∃ q, isPL ((σ r_Md_leads)) n D q ∧ rr = smS (wy ((σ r_Md_leads)) n D q (m - q).toNat) (sW n D q).toNat)))) ∧ (R01 f_Md_isLeft)) := by
        intro N
        induction N with
        | zero => intro w F2 G; intros; omega
        | succ N ih_209 =>
          intro w F2 G hkm hw hG hF2 hN_209
          refine wp_run 4 (pc' := 215) (ls' := [some (.inr (.inr (r_Md, 0))), some (.inl m), some (.inl k), some (.inl w), none, none]) (st' := [.inl (QV 0), .inr (.inr (r_Md, 0)), .inl w]) (σ' := srl σ [(r_Md_placeLetters, QV), (r_Md_isLeft, IL), (r_Md_ways, F2), (r_Md_waysThen, G)]) rfl ?_
          refine wp_fnv (v := .inl (sW n D (QV 0))) rfl rfl rfl rfl (ct_X12_wide (srl σ [(r_Md_placeLetters, QV), (r_Md_isLeft, IL), (r_Md_ways, F2), (r_Md_waysThen, G)]) n D p (QV 0) hI (by omega)) ?_
          show en_wp k_X12_left 218 [some (.inr (.inr (r_Md, 0))), some (.inl m), some (.inl k), some (.inl w), none, none] [.inl (sW n D (QV 0)), .inl w] (srl σ [(r_Md_placeLetters, QV), (r_Md_isLeft, IL), (r_Md_ways, F2), (r_Md_waysThen, G)]) _
          have q_3 : 0 ≤ sW n D (QV 0) ∧ sW n D (QV 0) ≤ 256 := sW_b hO
          refine wp_ic_ge rfl (by omega) (by omega) (fun h_4 => ?_) (fun h_4 => ?_)
          · show en_wp k_X12_left 239 [some (.inr (.inr (r_Md, 0))), some (.inl m), some (.inl k), some (.inl w), none, none] [] (srl σ [(r_Md_placeLetters, QV), (r_Md_isLeft, IL), (r_Md_ways, F2), (r_Md_waysThen, G)]) _
            refine wp_run 2 (pc' := 84) (ls' := [some (.inr (.inr (r_Md, 0))), some (.inl m), some (.inl (k + 1)), some (.inl w), none, none]) (st' := []) (σ' := srl σ [(r_Md_placeLetters, QV), (r_Md_isLeft, IL), (r_Md_ways, F2), (r_Md_waysThen, G)]) rfl ?_
            refine wp_sub (l := [some (.inr (.inr (r_Md, 0))), some (.inl m), some (.inl (k + 1)), none, none, none]) (And.intro rfl (And.intro rfl (And.intro rfl trivial))) ?_
            exact ih_84 (k + 1) QV IL F2 G (by omega) hq hIL (by omega) (fun t h8 h9 => by rw [wy_s (by omega), hF2 t h8 (by omega)]; exact hG t h8 h9) (by omega)
          · show en_wp k_X12_left 221 [some (.inr (.inr (r_Md, 0))), some (.inl m), some (.inl k), some (.inl w), none, none] [] (srl σ [(r_Md_placeLetters, QV), (r_Md_isLeft, IL), (r_Md_ways, F2), (r_Md_waysThen, G)]) _
            refine wp_run 6 (pc' := 231) (ls' := [some (.inr (.inr (r_Md, 0))), some (.inl m), some (.inl k), some (.inl w), none, none]) (st' := [.inl w, .inr (.inr (r_Md_waysThen, 0)), .inl w, .inr (.inr (r_Md_ways, 0))]) (σ' := srl σ [(r_Md_placeLetters, QV), (r_Md_isLeft, IL), (r_Md_ways, F2), (r_Md_waysThen, G)]) rfl ?_
            refine wp_lald0 rfl rfl (by omega) ?_
            show en_wp k_X12_left 232 [some (.inr (.inr (r_Md, 0))), some (.inl m), some (.inl k), some (.inl w), none, none] [.inr (.inl (G w)), .inl w, .inr (.inr (r_Md_ways, 0))] (srl σ [(r_Md_placeLetters, QV), (r_Md_isLeft, IL), (r_Md_ways, F2), (r_Md_waysThen, G)]) _
            refine wp_last0 rfl rfl (by omega) (wp_wr (l2 := [(r_Md_placeLetters, QV), (r_Md_isLeft, IL), (r_Md_ways, (up F2 w (G w))), (r_Md_waysThen, G)]) rfl ?_)
            show en_wp k_X12_left 233 [some (.inr (.inr (r_Md, 0))), some (.inl m), some (.inl k), some (.inl w), none, none] [] (srl σ [(r_Md_placeLetters, QV), (r_Md_isLeft, IL), (r_Md_ways, (up F2 w (G w))), (r_Md_waysThen, G)]) _
            refine wp_run 2 (pc' := 209) (ls' := [some (.inr (.inr (r_Md, 0))), some (.inl m), some (.inl k), some (.inl (w + 1)), none, none]) (st' := []) (σ' := srl σ [(r_Md_placeLetters, QV), (r_Md_isLeft, IL), (r_Md_ways, (up F2 w (G w))), (r_Md_waysThen, G)]) rfl ?_
            exact ih_209 (w + 1) (up F2 w (G w)) G (by omega) (by omega) hG (fun t h8 h9 => by rcases Int.lt_or_eq_of_le (show t ≤ w by omega) with h5 | h5 <;> first | (rw [up_ne (by omega)]; exact hF2 t h8 h5) | (rw [h5, up_eq])) (by omega)
      have L_118 : ∀ (N : Nat) (w : Int) (G : Int → Int), (k < m) → (0 ≤ w ∧ w ≤ sW n D (QV 0)) → (∀ t, 0 ≤ t → t < sW n D (QV 0) → G t = gW (σ r_Md_leads) n D (QV 0) (wy (σ r_Md_leads) n D (QV 0) (k - QV 0).toNat) w.toNat t) → (sW n D (QV 0) - w).toNat < N → en_wp k_X12_left 118 [some (.inr (.inr (r_Md, 0))), some (.inl m), some (.inl k), some (.inl w), none, none] [] (srl σ [(r_Md_placeLetters, QV), (r_Md_isLeft, IL), (r_Md_ways, F), (r_Md_waysThen, G)]) (fun r σ' => ∃ (v_Md_placeLetters : Int → Int), ∃ (f_Md_isLeft : Int → Int), ∃ (f_Md_ways : Int → Int), ∃ (f_Md_waysThen : Int → Int), ∃ (rr : Int), r = some (.inr (.inl rr)) ∧ σ' = srl σ [(r_Md_placeLetters, v_Md_placeLetters), (r_Md_isLeft, f_Md_isLeft), (r_Md_ways, f_Md_ways), (r_Md_waysThen, f_Md_waysThen)] ∧ ((¬ (0 ≤ m ∧ m ≤ 60) ∧ rr = -1) ∨ ((0 ≤ m ∧ m ≤ 60) ∧ ((m ≤ D ∧ rr = (σ r_Md_sizes) m) ∨ (D < m ∧ ∃ q, isPL ((σ r_Md_leads)) n D q ∧ rr = smS (wy ((σ r_Md_leads)) n D q (m - q).toNat) (sW n D q).toNat)))) ∧ (R01 f_Md_isLeft)) := by
        intro N
        induction N with
        | zero => intro w G; intros; omega
        | succ N ih_118 =>
          intro w G hkm hw hG hN_118
          have L_133 : ∀ (N : Nat) (x : Int) (G : Int → Int), (0 ≤ w ∧ w < sW n D (QV 0)) → (0 ≤ x ∧ x ≤ n) → (∀ t, 0 ≤ t → t < sW n D (QV 0) → G t = gX (σ r_Md_leads) n D (QV 0) (wy (σ r_Md_leads) n D (QV 0) (k - QV 0).toNat) w (gW (σ r_Md_leads) n D (QV 0) (wy (σ r_Md_leads) n D (QV 0) (k - QV 0).toNat) w.toNat) x.toNat t) → (n - x).toNat < N → en_wp k_X12_left 133 [some (.inr (.inr (r_Md, 0))), some (.inl m), some (.inl k), some (.inl w), some (.inl x), none] [] (srl σ [(r_Md_placeLetters, QV), (r_Md_isLeft, IL), (r_Md_ways, F), (r_Md_waysThen, G)]) (fun r σ' => ∃ (v_Md_placeLetters : Int → Int), ∃ (f_Md_isLeft : Int → Int), ∃ (f_Md_ways : Int → Int), ∃ (f_Md_waysThen : Int → Int), ∃ (rr : Int), r = some (.inr (.inl rr)) ∧ σ' = srl σ [(r_Md_placeLetters, v_Md_placeLetters), (r_Md_isLeft, f_Md_isLeft), (r_Md_ways, f_Md_ways), (r_Md_waysThen, f_Md_waysThen)] ∧ ((¬ (0 ≤ m ∧ m ≤ 60) ∧ rr = -1) ∨ ((0 ≤ m ∧ m ≤ 60) ∧ ((m ≤ D ∧ rr = (σ r_Md_sizes) m) ∨ (D < m ∧ ∃ q, isPL ((σ r_Md_leads)) n D q ∧ rr = smS (wy ((σ r_Md_leads)) n D q (m - q).toNat) (sW n D q).toNat)))) ∧ (R01 f_Md_isLeft)) := by
            intro N
            induction N with
            | zero => intro x G; intros; omega
            | succ N ih_133 =>
              intro x G hww hx hG hN_133
              have hFb : inL (F w) := by rw [hF w hww.1 hww.2]; exact wy_b _ _
              have hGb : ∀ t, 0 ≤ t → t < sW n D (QV 0) → inL (G t) := fun t h8 h9 => by rw [hG t h8 h9]; exact gX_b (wy_b _ _) (gW_b (wy_b _) _) _ _
              refine wp_run 5 (pc' := 143) (ls' := [some (.inr (.inr (r_Md, 0))), some (.inl m), some (.inl k), some (.inl w), some (.inl x), none]) (st' := [.inl (σ r_Md_live 0), .inr (.inr (r_Md_letters, 0)), .inl x]) (σ' := srl σ [(r_Md_placeLetters, QV), (r_Md_isLeft, IL), (r_Md_ways, F), (r_Md_waysThen, G)]) rfl ?_
              refine wp_iald0 rfl rfl (by omega) ?_
              show en_wp k_X12_left 144 [some (.inr (.inr (r_Md, 0))), some (.inl m), some (.inl k), some (.inl w), some (.inl x), none] [.inl (σ r_Md_letters (σ r_Md_live 0)), .inl x] (srl σ [(r_Md_placeLetters, QV), (r_Md_isLeft, IL), (r_Md_ways, F), (r_Md_waysThen, G)]) _
              rw [hn]
              show en_wp k_X12_left 144 [some (.inr (.inr (r_Md, 0))), some (.inl m), some (.inl k), some (.inl w), some (.inl x), none] [.inl n, .inl x] (srl σ [(r_Md_placeLetters, QV), (r_Md_isLeft, IL), (r_Md_ways, F), (r_Md_waysThen, G)]) _
              refine wp_ic_ge rfl (by omega) (by omega) (fun h_5 => ?_) (fun h_5 => ?_)
              · show en_wp k_X12_left 201 [some (.inr (.inr (r_Md, 0))), some (.inl m), some (.inl k), some (.inl w), some (.inl x), none] [] (srl σ [(r_Md_placeLetters, QV), (r_Md_isLeft, IL), (r_Md_ways, F), (r_Md_waysThen, G)]) _
                refine wp_run 2 (pc' := 118) (ls' := [some (.inr (.inr (r_Md, 0))), some (.inl m), some (.inl k), some (.inl (w + 1)), some (.inl x), none]) (st' := []) (σ' := srl σ [(r_Md_placeLetters, QV), (r_Md_isLeft, IL), (r_Md_ways, F), (r_Md_waysThen, G)]) rfl ?_
                refine wp_sub (l := [some (.inr (.inr (r_Md, 0))), some (.inl m), some (.inl k), some (.inl (w + 1)), none, none]) (And.intro rfl (And.intro rfl (And.intro rfl (And.intro rfl trivial)))) ?_
                exact ih_118 (w + 1) G (by omega) (by omega) (fun t h8 h9 => by rw [gW_s hww.1, ← show x.toNat = n.toNat by omega]; exact hG t h8 h9) (by omega)
              · show en_wp k_X12_left 147 [some (.inr (.inr (r_Md, 0))), some (.inl m), some (.inl k), some (.inl w), some (.inl x), none] [] (srl σ [(r_Md_placeLetters, QV), (r_Md_isLeft, IL), (r_Md_ways, F), (r_Md_waysThen, G)]) _
                refine wp_run 3 (pc' := 152) (ls' := [some (.inr (.inr (r_Md, 0))), some (.inl m), some (.inl k), some (.inl w), some (.inl x), none]) (st' := [.inl w, .inr (.inr (r_Md_ways, 0))]) (σ' := srl σ [(r_Md_placeLetters, QV), (r_Md_isLeft, IL), (r_Md_ways, F), (r_Md_waysThen, G)]) rfl ?_
                refine wp_lald0 rfl rfl (by omega) ?_
                show en_wp k_X12_left 153 [some (.inr (.inr (r_Md, 0))), some (.inl m), some (.inl k), some (.inl w), some (.inl x), none] [.inr (.inl (F w))] (srl σ [(r_Md_placeLetters, QV), (r_Md_isLeft, IL), (r_Md_ways, F), (r_Md_waysThen, G)]) _
                refine wp_run 1 (pc' := 154) (ls' := [some (.inr (.inr (r_Md, 0))), some (.inl m), some (.inl k), some (.inl w), some (.inl x), none]) (st' := [.inr (.inl 0), .inr (.inl (F w))]) (σ' := srl σ [(r_Md_placeLetters, QV), (r_Md_isLeft, IL), (r_Md_ways, F), (r_Md_waysThen, G)]) rfl ?_
                refine wp_lc_le rfl (by omega) (by omega) rfl (fun h_6 => ?_) (fun h_6 => ?_)
                · show en_wp k_X12_left 201 [some (.inr (.inr (r_Md, 0))), some (.inl m), some (.inl k), some (.inl w), some (.inl x), none] [] (srl σ [(r_Md_placeLetters, QV), (r_Md_isLeft, IL), (r_Md_ways, F), (r_Md_waysThen, G)]) _
                  refine wp_run 2 (pc' := 118) (ls' := [some (.inr (.inr (r_Md, 0))), some (.inl m), some (.inl k), some (.inl (w + 1)), some (.inl x), none]) (st' := []) (σ' := srl σ [(r_Md_placeLetters, QV), (r_Md_isLeft, IL), (r_Md_ways, F), (r_Md_waysThen, G)]) rfl ?_
                  refine wp_sub (l := [some (.inr (.inr (r_Md, 0))), some (.inl m), some (.inl k), some (.inl (w + 1)), none, none]) (And.intro rfl (And.intro rfl (And.intro rfl (And.intro rfl trivial)))) ?_
                  exact ih_118 (w + 1) G (by omega) (by omega) (fun t h8 h9 => by rw [gW_s hww.1, gX_no (by rw [← hF w hww.1 hww.2]; omega)]; have := hG t h8 h9; rw [gX_no (by rw [← hF w hww.1 hww.2]; omega)] at this; exact this) (by omega)
                · show en_wp k_X12_left 158 [some (.inr (.inr (r_Md, 0))), some (.inl m), some (.inl k), some (.inl w), some (.inl x), none] [] (srl σ [(r_Md_placeLetters, QV), (r_Md_isLeft, IL), (r_Md_ways, F), (r_Md_waysThen, G)]) _
                  refine wp_run 3 (pc' := 162) (ls' := [some (.inr (.inr (r_Md, 0))), some (.inl m), some (.inl k), some (.inl w), some (.inl x), none]) (st' := [.inl x, .inl w, .inr (.inr (r_Md, 0))]) (σ' := srl σ [(r_Md_placeLetters, QV), (r_Md_isLeft, IL), (r_Md_ways, F), (r_Md_waysThen, G)]) rfl ?_
                  refine wp_fnv (v := .inl (stp ((σ r_Md_leads)) n D (QV 0) w x)) rfl rfl rfl rfl (ct_X12_onFrom (srl σ [(r_Md_placeLetters, QV), (r_Md_isLeft, IL), (r_Md_ways, F), (r_Md_waysThen, G)]) n D p (QV 0) w x hI ⟨rfl, hq⟩ hIL hlead (by omega) (by omega)) ?_
                  show en_wp k_X12_left 165 [some (.inr (.inr (r_Md, 0))), some (.inl m), some (.inl k), some (.inl w), some (.inl x), none] [.inl (stp ((σ r_Md_leads)) n D (QV 0) w x)] (srl σ [(r_Md_placeLetters, QV), (r_Md_isLeft, IL), (r_Md_ways, F), (r_Md_waysThen, G)]) _
                  have q_7 : -1 ≤ stp ((σ r_Md_leads)) n D (QV 0) w x ∧ stp ((σ r_Md_leads)) n D (QV 0) w x < sW n D (QV 0) := stp_b _ (by omega)
                  refine wp_run 2 (pc' := 169) (ls' := [some (.inr (.inr (r_Md, 0))), some (.inl m), some (.inl k), some (.inl w), some (.inl x), some (.inl (stp ((σ r_Md_leads)) n D (QV 0) w x))]) (st' := [.inl (stp ((σ r_Md_leads)) n D (QV 0) w x)]) (σ' := srl σ [(r_Md_placeLetters, QV), (r_Md_isLeft, IL), (r_Md_ways, F), (r_Md_waysThen, G)]) rfl ?_
                  refine wp_if_lt rfl (by omega) (fun h_8 => ?_) (fun h_8 => ?_)
                  · show en_wp k_X12_left 195 [some (.inr (.inr (r_Md, 0))), some (.inl m), some (.inl k), some (.inl w), some (.inl x), some (.inl (stp ((σ r_Md_leads)) n D (QV 0) w x))] [] (srl σ [(r_Md_placeLetters, QV), (r_Md_isLeft, IL), (r_Md_ways, F), (r_Md_waysThen, G)]) _
                    refine wp_run 2 (pc' := 133) (ls' := [some (.inr (.inr (r_Md, 0))), some (.inl m), some (.inl k), some (.inl w), some (.inl (x + 1)), some (.inl (stp ((σ r_Md_leads)) n D (QV 0) w x))]) (st' := []) (σ' := srl σ [(r_Md_placeLetters, QV), (r_Md_isLeft, IL), (r_Md_ways, F), (r_Md_waysThen, G)]) rfl ?_
                    refine wp_sub (l := [some (.inr (.inr (r_Md, 0))), some (.inl m), some (.inl k), some (.inl w), some (.inl (x + 1)), none]) (And.intro rfl (And.intro rfl (And.intro rfl (And.intro rfl (And.intro rfl trivial))))) ?_
                    exact ih_133 (x + 1) G (by omega) (by omega) (gX_cell0 hx.1 (by omega) hG) (by omega)
                  · show en_wp k_X12_left 172 [some (.inr (.inr (r_Md, 0))), some (.inl m), some (.inl k), some (.inl w), some (.inl x), some (.inl (stp ((σ r_Md_leads)) n D (QV 0) w x))] [] (srl σ [(r_Md_placeLetters, QV), (r_Md_isLeft, IL), (r_Md_ways, F), (r_Md_waysThen, G)]) _
                    refine wp_run 6 (pc' := 184) (ls' := [some (.inr (.inr (r_Md, 0))), some (.inl m), some (.inl k), some (.inl w), some (.inl x), some (.inl (stp ((σ r_Md_leads)) n D (QV 0) w x))]) (st' := [.inl (stp ((σ r_Md_leads)) n D (QV 0) w x), .inr (.inr (r_Md_waysThen, 0)), .inl (stp ((σ r_Md_leads)) n D (QV 0) w x), .inr (.inr (r_Md_waysThen, 0))]) (σ' := srl σ [(r_Md_placeLetters, QV), (r_Md_isLeft, IL), (r_Md_ways, F), (r_Md_waysThen, G)]) rfl ?_
                    refine wp_lald0 rfl rfl (by omega) ?_
                    show en_wp k_X12_left 185 [some (.inr (.inr (r_Md, 0))), some (.inl m), some (.inl k), some (.inl w), some (.inl x), some (.inl (stp ((σ r_Md_leads)) n D (QV 0) w x))] [.inr (.inl (G (stp ((σ r_Md_leads)) n D (QV 0) w x))), .inl (stp ((σ r_Md_leads)) n D (QV 0) w x), .inr (.inr (r_Md_waysThen, 0))] (srl σ [(r_Md_placeLetters, QV), (r_Md_isLeft, IL), (r_Md_ways, F), (r_Md_waysThen, G)]) _
                    refine wp_run 3 (pc' := 190) (ls' := [some (.inr (.inr (r_Md, 0))), some (.inl m), some (.inl k), some (.inl w), some (.inl x), some (.inl (stp ((σ r_Md_leads)) n D (QV 0) w x))]) (st' := [.inl w, .inr (.inr (r_Md_ways, 0)), .inr (.inl (G (stp ((σ r_Md_leads)) n D (QV 0) w x))), .inl (stp ((σ r_Md_leads)) n D (QV 0) w x), .inr (.inr (r_Md_waysThen, 0))]) (σ' := srl σ [(r_Md_placeLetters, QV), (r_Md_isLeft, IL), (r_Md_ways, F), (r_Md_waysThen, G)]) rfl ?_
                    refine wp_lald0 rfl rfl (by omega) ?_
                    show en_wp k_X12_left 191 [some (.inr (.inr (r_Md, 0))), some (.inl m), some (.inl k), some (.inl w), some (.inl x), some (.inl (stp ((σ r_Md_leads)) n D (QV 0) w x))] [.inr (.inl (F w)), .inr (.inl (G (stp ((σ r_Md_leads)) n D (QV 0) w x))), .inl (stp ((σ r_Md_leads)) n D (QV 0) w x), .inr (.inr (r_Md_waysThen, 0))] (srl σ [(r_Md_placeLetters, QV), (r_Md_isLeft, IL), (r_Md_ways, F), (r_Md_waysThen, G)]) _
                    have hGs := hGb (stp (σ r_Md_leads) n D (QV 0) w x) (by omega) (by omega)
                    refine wp_fns (v := .inr (.inl (sat (G (stp ((σ r_Md_leads)) n D (QV 0) w x)) (F w)))) rfl rfl rfl rfl rfl (ct_X12_more (srl σ [(r_Md_placeLetters, QV), (r_Md_isLeft, IL), (r_Md_ways, F), (r_Md_waysThen, G)]) (G (stp ((σ r_Md_leads)) n D (QV 0) w x)) (F w) (by omega) (by omega)) ?_
                    show en_wp k_X12_left 194 [some (.inr (.inr (r_Md, 0))), some (.inl m), some (.inl k), some (.inl w), some (.inl x), some (.inl (stp ((σ r_Md_leads)) n D (QV 0) w x))] [.inr (.inl (sat (G (stp ((σ r_Md_leads)) n D (QV 0) w x)) (F w))), .inl (stp ((σ r_Md_leads)) n D (QV 0) w x), .inr (.inr (r_Md_waysThen, 0))] (srl σ [(r_Md_placeLetters, QV), (r_Md_isLeft, IL), (r_Md_ways, F), (r_Md_waysThen, G)]) _
                    refine wp_last0 rfl rfl (by omega) (wp_wr (l2 := [(r_Md_placeLetters, QV), (r_Md_isLeft, IL), (r_Md_ways, F), (r_Md_waysThen, (up G (stp ((σ r_Md_leads)) n D (QV 0) w x) (sat (G (stp ((σ r_Md_leads)) n D (QV 0) w x)) (F w))))]) rfl ?_)
                    show en_wp k_X12_left 195 [some (.inr (.inr (r_Md, 0))), some (.inl m), some (.inl k), some (.inl w), some (.inl x), some (.inl (stp ((σ r_Md_leads)) n D (QV 0) w x))] [] (srl σ [(r_Md_placeLetters, QV), (r_Md_isLeft, IL), (r_Md_ways, F), (r_Md_waysThen, (up G (stp ((σ r_Md_leads)) n D (QV 0) w x) (sat (G (stp ((σ r_Md_leads)) n D (QV 0) w x)) (F w))))]) _
                    refine wp_run 2 (pc' := 133) (ls' := [some (.inr (.inr (r_Md, 0))), some (.inl m), some (.inl k), some (.inl w), some (.inl (x + 1)), some (.inl (stp ((σ r_Md_leads)) n D (QV 0) w x))]) (st' := []) (σ' := srl σ [(r_Md_placeLetters, QV), (r_Md_isLeft, IL), (r_Md_ways, F), (r_Md_waysThen, (up G (stp ((σ r_Md_leads)) n D (QV 0) w x) (sat (G (stp ((σ r_Md_leads)) n D (QV 0) w x)) (F w))))]) rfl ?_
                    refine wp_sub (l := [some (.inr (.inr (r_Md, 0))), some (.inl m), some (.inl k), some (.inl w), some (.inl (x + 1)), none]) (And.intro rfl (And.intro rfl (And.intro rfl (And.intro rfl (And.intro rfl trivial))))) ?_
                    exact ih_133 (x + 1) (up G (stp ((σ r_Md_leads)) n D (QV 0) w x) (sat (G (stp ((σ r_Md_leads)) n D (QV 0) w x)) (F w))) (by omega) (by omega) (gX_cell hx.1 (by omega) (by rw [← hF w hww.1 hww.2]; omega) hG (by omega) (by rw [hF w hww.1 hww.2])) (by omega)
          refine wp_run 4 (pc' := 124) (ls' := [some (.inr (.inr (r_Md, 0))), some (.inl m), some (.inl k), some (.inl w), none, none]) (st' := [.inl (QV 0), .inr (.inr (r_Md, 0)), .inl w]) (σ' := srl σ [(r_Md_placeLetters, QV), (r_Md_isLeft, IL), (r_Md_ways, F), (r_Md_waysThen, G)]) rfl ?_
          refine wp_fnv (v := .inl (sW n D (QV 0))) rfl rfl rfl rfl (ct_X12_wide (srl σ [(r_Md_placeLetters, QV), (r_Md_isLeft, IL), (r_Md_ways, F), (r_Md_waysThen, G)]) n D p (QV 0) hI (by omega)) ?_
          show en_wp k_X12_left 127 [some (.inr (.inr (r_Md, 0))), some (.inl m), some (.inl k), some (.inl w), none, none] [.inl (sW n D (QV 0)), .inl w] (srl σ [(r_Md_placeLetters, QV), (r_Md_isLeft, IL), (r_Md_ways, F), (r_Md_waysThen, G)]) _
          have q_9 : 0 ≤ sW n D (QV 0) ∧ sW n D (QV 0) ≤ 256 := sW_b hO
          refine wp_ic_ge rfl (by omega) (by omega) (fun h_10 => ?_) (fun h_10 => ?_)
          · show en_wp k_X12_left 207 [some (.inr (.inr (r_Md, 0))), some (.inl m), some (.inl k), some (.inl w), none, none] [] (srl σ [(r_Md_placeLetters, QV), (r_Md_isLeft, IL), (r_Md_ways, F), (r_Md_waysThen, G)]) _
            refine wp_run 2 (pc' := 209) (ls' := [some (.inr (.inr (r_Md, 0))), some (.inl m), some (.inl k), some (.inl 0), none, none]) (st' := []) (σ' := srl σ [(r_Md_placeLetters, QV), (r_Md_isLeft, IL), (r_Md_ways, F), (r_Md_waysThen, G)]) rfl ?_
            exact L_209 _ 0 F G (by omega) (by omega) (fun t h8 h9 => by rw [← show w = sW n D (QV 0) by omega]; exact hG t h8 h9) (fun t h8 h9 => by omega) (Nat.lt_succ_self _)
          · show en_wp k_X12_left 130 [some (.inr (.inr (r_Md, 0))), some (.inl m), some (.inl k), some (.inl w), none, none] [] (srl σ [(r_Md_placeLetters, QV), (r_Md_isLeft, IL), (r_Md_ways, F), (r_Md_waysThen, G)]) _
            refine wp_run 2 (pc' := 133) (ls' := [some (.inr (.inr (r_Md, 0))), some (.inl m), some (.inl k), some (.inl w), some (.inl 0), none]) (st' := []) (σ' := srl σ [(r_Md_placeLetters, QV), (r_Md_isLeft, IL), (r_Md_ways, F), (r_Md_waysThen, G)]) rfl ?_
            exact L_133 _ 0 G (by omega) (by omega) hG (Nat.lt_succ_self _)
      have L_91 : ∀ (N : Nat) (w : Int) (G : Int → Int), (k < m) → (0 ≤ w ∧ w ≤ sW n D (QV 0)) → (∀ t, 0 ≤ t → t < w → G t = 0) → (sW n D (QV 0) - w).toNat < N → en_wp k_X12_left 91 [some (.inr (.inr (r_Md, 0))), some (.inl m), some (.inl k), some (.inl w), none, none] [] (srl σ [(r_Md_placeLetters, QV), (r_Md_isLeft, IL), (r_Md_ways, F), (r_Md_waysThen, G)]) (fun r σ' => ∃ (v_Md_placeLetters : Int → Int), ∃ (f_Md_isLeft : Int → Int), ∃ (f_Md_ways : Int → Int), ∃ (f_Md_waysThen : Int → Int), ∃ (rr : Int), r = some (.inr (.inl rr)) ∧ σ' = srl σ [(r_Md_placeLetters, v_Md_placeLetters), (r_Md_isLeft, f_Md_isLeft), (r_Md_ways, f_Md_ways), (r_Md_waysThen, f_Md_waysThen)] ∧ ((¬ (0 ≤ m ∧ m ≤ 60) ∧ rr = -1) ∨ ((0 ≤ m ∧ m ≤ 60) ∧ ((m ≤ D ∧ rr = (σ r_Md_sizes) m) ∨ (D < m ∧ ∃ q, isPL ((σ r_Md_leads)) n D q ∧ rr = smS (wy ((σ r_Md_leads)) n D q (m - q).toNat) (sW n D q).toNat)))) ∧ (R01 f_Md_isLeft)) := by
        intro N
        induction N with
        | zero => intro w G; intros; omega
        | succ N ih_91 =>
          intro w G hkm hw hG hN_91
          refine wp_run 4 (pc' := 97) (ls' := [some (.inr (.inr (r_Md, 0))), some (.inl m), some (.inl k), some (.inl w), none, none]) (st' := [.inl (QV 0), .inr (.inr (r_Md, 0)), .inl w]) (σ' := srl σ [(r_Md_placeLetters, QV), (r_Md_isLeft, IL), (r_Md_ways, F), (r_Md_waysThen, G)]) rfl ?_
          refine wp_fnv (v := .inl (sW n D (QV 0))) rfl rfl rfl rfl (ct_X12_wide (srl σ [(r_Md_placeLetters, QV), (r_Md_isLeft, IL), (r_Md_ways, F), (r_Md_waysThen, G)]) n D p (QV 0) hI (by omega)) ?_
          show en_wp k_X12_left 100 [some (.inr (.inr (r_Md, 0))), some (.inl m), some (.inl k), some (.inl w), none, none] [.inl (sW n D (QV 0)), .inl w] (srl σ [(r_Md_placeLetters, QV), (r_Md_isLeft, IL), (r_Md_ways, F), (r_Md_waysThen, G)]) _
          have q_11 : 0 ≤ sW n D (QV 0) ∧ sW n D (QV 0) ≤ 256 := sW_b hO
          refine wp_ic_ge rfl (by omega) (by omega) (fun h_12 => ?_) (fun h_12 => ?_)
          · show en_wp k_X12_left 116 [some (.inr (.inr (r_Md, 0))), some (.inl m), some (.inl k), some (.inl w), none, none] [] (srl σ [(r_Md_placeLetters, QV), (r_Md_isLeft, IL), (r_Md_ways, F), (r_Md_waysThen, G)]) _
            refine wp_run 2 (pc' := 118) (ls' := [some (.inr (.inr (r_Md, 0))), some (.inl m), some (.inl k), some (.inl 0), none, none]) (st' := []) (σ' := srl σ [(r_Md_placeLetters, QV), (r_Md_isLeft, IL), (r_Md_ways, F), (r_Md_waysThen, G)]) rfl ?_
            exact L_118 _ 0 G (by omega) (by omega) (fun t h8 h9 => hG t h8 (by omega)) (Nat.lt_succ_self _)
          · show en_wp k_X12_left 103 [some (.inr (.inr (r_Md, 0))), some (.inl m), some (.inl k), some (.inl w), none, none] [] (srl σ [(r_Md_placeLetters, QV), (r_Md_isLeft, IL), (r_Md_ways, F), (r_Md_waysThen, G)]) _
            refine wp_run 4 (pc' := 109) (ls' := [some (.inr (.inr (r_Md, 0))), some (.inl m), some (.inl k), some (.inl w), none, none]) (st' := [.inr (.inl 0), .inl w, .inr (.inr (r_Md_waysThen, 0))]) (σ' := srl σ [(r_Md_placeLetters, QV), (r_Md_isLeft, IL), (r_Md_ways, F), (r_Md_waysThen, G)]) rfl ?_
            refine wp_last0 rfl rfl (by omega) (wp_wr (l2 := [(r_Md_placeLetters, QV), (r_Md_isLeft, IL), (r_Md_ways, F), (r_Md_waysThen, (up G w 0))]) rfl ?_)
            show en_wp k_X12_left 110 [some (.inr (.inr (r_Md, 0))), some (.inl m), some (.inl k), some (.inl w), none, none] [] (srl σ [(r_Md_placeLetters, QV), (r_Md_isLeft, IL), (r_Md_ways, F), (r_Md_waysThen, (up G w 0))]) _
            refine wp_run 2 (pc' := 91) (ls' := [some (.inr (.inr (r_Md, 0))), some (.inl m), some (.inl k), some (.inl (w + 1)), none, none]) (st' := []) (σ' := srl σ [(r_Md_placeLetters, QV), (r_Md_isLeft, IL), (r_Md_ways, F), (r_Md_waysThen, (up G w 0))]) rfl ?_
            exact ih_91 (w + 1) (up G w 0) (by omega) (by omega) (fun t h8 h9 => by rcases Int.lt_or_eq_of_le (show t ≤ w by omega) with h5 | h5 <;> first | (rw [up_ne (by omega)]; exact hG t h8 h5) | (rw [h5, up_eq])) (by omega)
      refine wp_run 2 (pc' := 86) (ls' := [some (.inr (.inr (r_Md, 0))), some (.inl m), some (.inl k), none, none, none]) (st' := [.inl m, .inl k]) (σ' := srl σ [(r_Md_placeLetters, QV), (r_Md_isLeft, IL), (r_Md_ways, F), (r_Md_waysThen, G)]) rfl ?_
      refine wp_ic_ge rfl (by omega) (by omega) (fun h_13 => ?_) (fun h_13 => ?_)
      · show en_wp k_X12_left 245 [some (.inr (.inr (r_Md, 0))), some (.inl m), some (.inl k), none, none, none] [] (srl σ [(r_Md_placeLetters, QV), (r_Md_isLeft, IL), (r_Md_ways, F), (r_Md_waysThen, G)]) _
        refine wp_run 4 (pc' := 250) (ls' := [some (.inr (.inr (r_Md, 0))), some (.inl m), some (.inr (.inl 0)), none, some (.inl 0), none]) (st' := []) (σ' := srl σ [(r_Md_placeLetters, QV), (r_Md_isLeft, IL), (r_Md_ways, F), (r_Md_waysThen, G)]) rfl ?_
        refine wp_sub (l := [some (.inr (.inr (r_Md, 0))), none, some (.inr (.inl 0)), none, some (.inl 0), none]) (And.intro rfl (And.intro rfl (And.intro rfl trivial))) ?_
        exact L_250 _ 0 0 QV IL F G (by omega) hq hIL (by omega) (fun t h8 h9 => by rw [← show k = m by omega]; exact hF t h8 h9) rfl (Nat.lt_succ_self _)
      · show en_wp k_X12_left 89 [some (.inr (.inr (r_Md, 0))), some (.inl m), some (.inl k), none, none, none] [] (srl σ [(r_Md_placeLetters, QV), (r_Md_isLeft, IL), (r_Md_ways, F), (r_Md_waysThen, G)]) _
        refine wp_run 2 (pc' := 91) (ls' := [some (.inr (.inr (r_Md, 0))), some (.inl m), some (.inl k), some (.inl 0), none, none]) (st' := []) (σ' := srl σ [(r_Md_placeLetters, QV), (r_Md_isLeft, IL), (r_Md_ways, F), (r_Md_waysThen, G)]) rfl ?_
        exact L_91 _ 0 G (by omega) (by omega) (fun t h8 h9 => by omega) (Nat.lt_succ_self _)
  have L_41 : ∀ (N : Nat) (w : Int) (QV : Int → Int) (IL : Int → Int) (F : Int → Int), (D < m ∧ m ≤ 60) → (isPL (σ r_Md_leads) n D (QV 0)) → ((∀ w, 0 ≤ w → w < sW n D (QV 0) → IL w = bI (σ r_Md_leads (sS n D (QV 0) + w) = 0)) ∧ R01 IL) → (0 ≤ w ∧ w ≤ sW n D (QV 0)) → (∀ t, 0 ≤ t → t < w → F t = wy (σ r_Md_leads) n D (QV 0) 0 t) → (sW n D (QV 0) - w).toNat < N → en_wp k_X12_left 41 [some (.inr (.inr (r_Md, 0))), some (.inl m), some (.inl w), none, none, none] [] (srl σ [(r_Md_placeLetters, QV), (r_Md_isLeft, IL), (r_Md_ways, F)]) (fun r σ' => ∃ (v_Md_placeLetters : Int → Int), ∃ (f_Md_isLeft : Int → Int), ∃ (f_Md_ways : Int → Int), ∃ (f_Md_waysThen : Int → Int), ∃ (rr : Int), r = some (.inr (.inl rr)) ∧ σ' = srl σ [(r_Md_placeLetters, v_Md_placeLetters), (r_Md_isLeft, f_Md_isLeft), (r_Md_ways, f_Md_ways), (r_Md_waysThen, f_Md_waysThen)] ∧ ((¬ (0 ≤ m ∧ m ≤ 60) ∧ rr = -1) ∨ ((0 ≤ m ∧ m ≤ 60) ∧ ((m ≤ D ∧ rr = (σ r_Md_sizes) m) ∨ (D < m ∧ ∃ q, isPL ((σ r_Md_leads)) n D q ∧ rr = smS (wy ((σ r_Md_leads)) n D q (m - q).toNat) (sW n D q).toNat)))) ∧ (R01 f_Md_isLeft)) := by
    intro N
    induction N with
    | zero => intro w QV IL F; intros; omega
    | succ N ih_41 =>
      intro w QV IL F hm hq hIL hw hF hN_41
      have hqb := isPL_b hq hO3
      have hWq := sW_b (k := QV 0) hO
      refine wp_run 4 (pc' := 47) (ls' := [some (.inr (.inr (r_Md, 0))), some (.inl m), some (.inl w), none, none, none]) (st' := [.inl (QV 0), .inr (.inr (r_Md, 0)), .inl w]) (σ' := srl σ [(r_Md_placeLetters, QV), (r_Md_isLeft, IL), (r_Md_ways, F)]) rfl ?_
      refine wp_fnv (v := .inl (sW n D (QV 0))) rfl rfl rfl rfl (ct_X12_wide (srl σ [(r_Md_placeLetters, QV), (r_Md_isLeft, IL), (r_Md_ways, F)]) n D p (QV 0) hI (by omega)) ?_
      show en_wp k_X12_left 50 [some (.inr (.inr (r_Md, 0))), some (.inl m), some (.inl w), none, none, none] [.inl (sW n D (QV 0)), .inl w] (srl σ [(r_Md_placeLetters, QV), (r_Md_isLeft, IL), (r_Md_ways, F)]) _
      have q_14 : 0 ≤ sW n D (QV 0) ∧ sW n D (QV 0) ≤ 256 := sW_b hO
      refine wp_ic_ge rfl (by omega) (by omega) (fun h_15 => ?_) (fun h_15 => ?_)
      · show en_wp k_X12_left 79 [some (.inr (.inr (r_Md, 0))), some (.inl m), some (.inl w), none, none, none] [] (srl σ [(r_Md_placeLetters, QV), (r_Md_isLeft, IL), (r_Md_ways, F)]) _
        refine wp_run 3 (pc' := 84) (ls' := [some (.inr (.inr (r_Md, 0))), some (.inl m), some (.inl (QV 0)), none, none, none]) (st' := []) (σ' := srl σ [(r_Md_placeLetters, QV), (r_Md_isLeft, IL), (r_Md_ways, F)]) rfl ?_
        refine wp_mem (srl_eq (l' := [(r_Md_placeLetters, QV), (r_Md_isLeft, IL), (r_Md_ways, F), (r_Md_waysThen, (σ r_Md_waysThen))]) (And.intro rfl (And.intro rfl (And.intro rfl trivial))) (And.intro rfl (And.intro rfl (And.intro rfl (And.intro rfl trivial))))) ?_
        exact L_84 _ (QV 0) QV IL F (σ r_Md_waysThen) (by omega) hq hIL (by omega) (fun t h8 h9 => by rw [Int.sub_self]; exact hF t h8 (by omega)) (Nat.lt_succ_self _)
      · show en_wp k_X12_left 53 [some (.inr (.inr (r_Md, 0))), some (.inl m), some (.inl w), none, none, none] [] (srl σ [(r_Md_placeLetters, QV), (r_Md_isLeft, IL), (r_Md_ways, F)]) _
        refine wp_run 6 (pc' := 63) (ls' := [some (.inr (.inr (r_Md, 0))), some (.inl m), some (.inl w), none, none, none]) (st' := [.inl w, .inr (.inr (r_Md_isLeft, 0)), .inl w, .inr (.inr (r_Md_ways, 0))]) (σ' := srl σ [(r_Md_placeLetters, QV), (r_Md_isLeft, IL), (r_Md_ways, F)]) rfl ?_
        refine wp_bald0 rfl (.inr rfl) (by omega) ?_
        show en_wp k_X12_left 64 [some (.inr (.inr (r_Md, 0))), some (.inl m), some (.inl w), none, none, none] [.inl (IL w), .inl w, .inr (.inr (r_Md_ways, 0))] (srl σ [(r_Md_placeLetters, QV), (r_Md_isLeft, IL), (r_Md_ways, F)]) _
        have h01 := hIL.2 w
        refine wp_if_eq rfl (by omega) (fun h_16 => ?_) (fun h_16 => ?_)
        · show en_wp k_X12_left 71 [some (.inr (.inr (r_Md, 0))), some (.inl m), some (.inl w), none, none, none] [.inl w, .inr (.inr (r_Md_ways, 0))] (srl σ [(r_Md_placeLetters, QV), (r_Md_isLeft, IL), (r_Md_ways, F)]) _
          refine wp_run 1 (pc' := 72) (ls' := [some (.inr (.inr (r_Md, 0))), some (.inl m), some (.inl w), none, none, none]) (st' := [.inr (.inl 0), .inl w, .inr (.inr (r_Md_ways, 0))]) (σ' := srl σ [(r_Md_placeLetters, QV), (r_Md_isLeft, IL), (r_Md_ways, F)]) rfl ?_
          refine wp_last0 rfl rfl (by omega) (wp_wr (l2 := [(r_Md_placeLetters, QV), (r_Md_isLeft, IL), (r_Md_ways, (up F w 0))]) rfl ?_)
          show en_wp k_X12_left 73 [some (.inr (.inr (r_Md, 0))), some (.inl m), some (.inl w), none, none, none] [] (srl σ [(r_Md_placeLetters, QV), (r_Md_isLeft, IL), (r_Md_ways, (up F w 0))]) _
          refine wp_run 2 (pc' := 41) (ls' := [some (.inr (.inr (r_Md, 0))), some (.inl m), some (.inl (w + 1)), none, none, none]) (st' := []) (σ' := srl σ [(r_Md_placeLetters, QV), (r_Md_isLeft, IL), (r_Md_ways, (up F w 0))]) rfl ?_
          exact ih_41 (w + 1) QV IL (up F w 0) (by omega) hq hIL (by omega) (fun t h8 h9 => by rcases Int.lt_or_eq_of_le (show t ≤ w by omega) with h5 | h5 <;> first | (rw [up_ne (by omega)]; exact hF t h8 h5) | (rw [h5, up_eq]; exact (if_neg (bI_z ((hIL.1 w hw.1 (by omega)).symm.trans (by assumption)))).symm)) (by omega)
        · show en_wp k_X12_left 67 [some (.inr (.inr (r_Md, 0))), some (.inl m), some (.inl w), none, none, none] [.inl w, .inr (.inr (r_Md_ways, 0))] (srl σ [(r_Md_placeLetters, QV), (r_Md_isLeft, IL), (r_Md_ways, F)]) _
          refine wp_run 2 (pc' := 72) (ls' := [some (.inr (.inr (r_Md, 0))), some (.inl m), some (.inl w), none, none, none]) (st' := [.inr (.inl 1), .inl w, .inr (.inr (r_Md_ways, 0))]) (σ' := srl σ [(r_Md_placeLetters, QV), (r_Md_isLeft, IL), (r_Md_ways, F)]) rfl ?_
          refine wp_last0 rfl rfl (by omega) (wp_wr (l2 := [(r_Md_placeLetters, QV), (r_Md_isLeft, IL), (r_Md_ways, (up F w 1))]) rfl ?_)
          show en_wp k_X12_left 73 [some (.inr (.inr (r_Md, 0))), some (.inl m), some (.inl w), none, none, none] [] (srl σ [(r_Md_placeLetters, QV), (r_Md_isLeft, IL), (r_Md_ways, (up F w 1))]) _
          refine wp_run 2 (pc' := 41) (ls' := [some (.inr (.inr (r_Md, 0))), some (.inl m), some (.inl (w + 1)), none, none, none]) (st' := []) (σ' := srl σ [(r_Md_placeLetters, QV), (r_Md_isLeft, IL), (r_Md_ways, (up F w 1))]) rfl ?_
          exact ih_41 (w + 1) QV IL (up F w 1) (by omega) hq hIL (by omega) (fun t h8 h9 => by rcases Int.lt_or_eq_of_le (show t ≤ w by omega) with h5 | h5 <;> first | (rw [up_ne (by omega)]; exact hF t h8 h5) | (rw [h5, up_eq]; exact (if_pos (bI_nz (fun q => (by assumption : ¬ IL w = 0) ((hIL.1 w hw.1 (by omega)).trans q)))).symm)) (by omega)
  refine wp_run 3 (pc' := 4) (ls' := [some (.inr (.inr (r_Md, 0))), some (.inl m), none, none, none, none]) (st' := [.inl 60, .inl 0, .inl m]) (σ' := srl σ []) rfl ?_
  refine wp_fns (v := .inl (bI (0 ≤ m ∧ m ≤ 60))) rfl rfl rfl rfl rfl (ct_X12_in σ m 0 60 (by omega) (by omega) (by omega)) ?_
  show en_wp k_X12_left 7 [some (.inr (.inr (r_Md, 0))), some (.inl m), none, none, none, none] [.inl (bI (0 ≤ m ∧ m ≤ 60))] (srl σ []) _
  refine wp_if_neb rfl (fun h_17 => ?_) (fun h_17 => ?_)
  · show en_wp k_X12_left 14 [some (.inr (.inr (r_Md, 0))), some (.inl m), none, none, none, none] [] (srl σ []) _
    refine wp_run 5 (pc' := 23) (ls' := [some (.inr (.inr (r_Md, 0))), some (.inl m), none, none, none, none]) (st' := [.inl (σ r_Md_live 0), .inr (.inr (r_Md_degree, 0)), .inl m]) (σ' := srl σ []) rfl ?_
    refine wp_iald0 rfl rfl (by omega) ?_
    show en_wp k_X12_left 24 [some (.inr (.inr (r_Md, 0))), some (.inl m), none, none, none, none] [.inl (σ r_Md_degree (σ r_Md_live 0)), .inl m] (srl σ []) _
    rw [hD]
    show en_wp k_X12_left 24 [some (.inr (.inr (r_Md, 0))), some (.inl m), none, none, none, none] [.inl D, .inl m] (srl σ []) _
    refine wp_ic_gt rfl (by omega) (by omega) (fun h_18 => ?_) (fun h_18 => ?_)
    · show en_wp k_X12_left 35 [some (.inr (.inr (r_Md, 0))), some (.inl m), none, none, none, none] [] (srl σ []) _
      refine wp_run 1 (pc' := 36) (ls' := [some (.inr (.inr (r_Md, 0))), some (.inl m), none, none, none, none]) (st' := [.inr (.inr (r_Md, 0))]) (σ' := srl σ []) rfl ?_
      refine wp_callv rfl rfl rfl rfl (ct_X12_places σ n D p hI hlead hlf) ?_
      rintro _ _ ⟨v_19, f_20, rfl, rfl, p_21, p_22, p_23⟩
      have p_21 : isPL ((σ r_Md_leads)) n D (v_19 0) := p_21
      have p_22 : ∀ w, 0 ≤ w → w < sW n D (v_19 0) → f_20 w = bI ((σ r_Md_leads) (sS n D (v_19 0) + w) = 0) := p_22
      have p_23 : R01 f_20 := p_23
      show en_wp k_X12_left 39 [some (.inr (.inr (r_Md, 0))), some (.inl m), none, none, none, none] [] (srl σ [(r_Md_placeLetters, v_19), (r_Md_isLeft, f_20)]) _
      have kp := (⟨p_21, p_22, p_23⟩ : _ ∧ _ ∧ _)
      refine wp_run 2 (pc' := 41) (ls' := [some (.inr (.inr (r_Md, 0))), some (.inl m), some (.inl 0), none, none, none]) (st' := []) (σ' := srl σ [(r_Md_placeLetters, v_19), (r_Md_isLeft, f_20)]) rfl ?_
      refine wp_mem (srl_eq (l' := [(r_Md_placeLetters, v_19), (r_Md_isLeft, f_20), (r_Md_ways, (σ r_Md_ways))]) (And.intro rfl (And.intro rfl trivial)) (And.intro rfl (And.intro rfl (And.intro rfl trivial)))) ?_
      exact L_41 _ 0 v_19 f_20 (σ r_Md_ways) (by omega) kp.1 ⟨kp.2.1, kp.2.2⟩ ⟨Int.le_refl 0, sW_nn hO.1.1⟩ (fun t h8 h9 => by omega) (Nat.lt_succ_self _)
    · show en_wp k_X12_left 27 [some (.inr (.inr (r_Md, 0))), some (.inl m), none, none, none, none] [] (srl σ []) _
      refine wp_run 3 (pc' := 32) (ls' := [some (.inr (.inr (r_Md, 0))), some (.inl m), none, none, none, none]) (st' := [.inl m, .inr (.inr (r_Md_sizes, 0))]) (σ' := srl σ []) rfl ?_
      refine wp_iald0 rfl rfl (by omega) ?_
      show en_wp k_X12_left 33 [some (.inr (.inr (r_Md, 0))), some (.inl m), none, none, none, none] [.inl (σ r_Md_sizes m)] (srl σ []) _
      have hz := hsz m (by omega) (by omega)
      refine wp_i2l rfl (by omega) ?_
      show en_wp k_X12_left 34 [some (.inr (.inr (r_Md, 0))), some (.inl m), none, none, none, none] [.inr (.inl (σ r_Md_sizes m))] (srl σ []) _
      exact wp_lret rfl ⟨(σ r_Md_placeLetters), (σ r_Md_isLeft), (σ r_Md_ways), (σ r_Md_waysThen), (σ r_Md_sizes m), rfl, srl_eq (l' := [(r_Md_placeLetters, σ r_Md_placeLetters), (r_Md_isLeft, σ r_Md_isLeft), (r_Md_ways, σ r_Md_ways), (r_Md_waysThen, σ r_Md_waysThen)]) trivial (And.intro rfl (And.intro rfl (And.intro rfl (And.intro rfl trivial)))), ⟨.inr ⟨by omega, .inl ⟨by omega, rfl⟩⟩, hlf⟩⟩
  · show en_wp k_X12_left 10 [some (.inr (.inr (r_Md, 0))), some (.inl m), none, none, none, none] [] (srl σ []) _
    refine wp_run 1 (pc' := 13) (ls' := [some (.inr (.inr (r_Md, 0))), some (.inl m), none, none, none, none]) (st' := [.inr (.inl (-1))]) (σ' := srl σ []) rfl ?_
    exact wp_lret rfl ⟨(σ r_Md_placeLetters), (σ r_Md_isLeft), (σ r_Md_ways), (σ r_Md_waysThen), (-1), rfl, srl_eq (l' := [(r_Md_placeLetters, σ r_Md_placeLetters), (r_Md_isLeft, σ r_Md_isLeft), (r_Md_ways, σ r_Md_ways), (r_Md_waysThen, σ r_Md_waysThen)]) trivial (And.intro rfl (And.intro rfl (And.intro rfl (And.intro rfl trivial)))), ⟨.inl ⟨by omega, rfl⟩, hlf⟩⟩
