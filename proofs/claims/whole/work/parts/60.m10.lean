/-! contracts of methods, walked (written by wip/whole/walk.py from the annotations ann_m10) -/
theorem ct_X3_normalAt_Nought0 (σ : en_m) (n : Int) (D : Int) (p : Int) (L : Int → Int) (R : Int) (d : Int) (i : Int) (hI : cS0 σ n D p) (g01 : R01 ((σ r_Nought0_leading))) (hLL : ∀ x, 0 ≤ x → x < sS n D (R + 1) → (σ r_Nought0_leading) x = L x) (hRD : R ≤ D) (h1 : 0 ≤ d ∧ d ≤ R) (h2 : i32 i) : en_fn z_X3_normalAt [.inr (.inr (r_Nought0, 0)), .inl d, .inl i] σ (.inl (nth (fun w => bI (L (sS n D d + w) = 0)) i (sW n D d).toNat)) := by
  show en_wp k_X3_normalAt 0 [some (.inr (.inr (r_Nought0, 0))), some (.inl d), some (.inl i), none, none] [] (srl σ []) (fun r σ' => r = some (.inl (nth (fun w => bI (L (sS n D d + w) = 0)) i (sW n D d).toNat)) ∧ σ' = σ)
  have hI2 := hI
  obtain ⟨hO, hn, hD, hp, hm, hst, hln⟩ := hI2
  obtain ⟨⟨hO1, hO2⟩, ⟨hO3, hO4⟩, hO5, hO6, hO7, hO8⟩ := id hO
  have hWb := sW_b (k := d) hO
  have L_5 : ∀ (N : Nat) (a : Int) (w : Int), (0 ≤ w ∧ w ≤ sW n D d) → (a = sm (fun w => bI (L (sS n D d + w) = 0)) w.toNat ∧ 0 ≤ a ∧ a ≤ w) → (nth (fun w => bI (L (sS n D d + w) = 0)) i w.toNat = -1) → (sW n D d - w).toNat < N → en_wp k_X3_normalAt 5 [some (.inr (.inr (r_Nought0, 0))), some (.inl d), some (.inl i), some (.inl a), some (.inl w)] [] (srl σ []) (fun r σ' => r = some (.inl (nth (fun w => bI (L (sS n D d + w) = 0)) i (sW n D d).toNat)) ∧ σ' = σ) := by
    intro N
    induction N with
    | zero => intro a w; intros; omega
    | succ N ih_5 =>
      intro a w hw ha hn1 hN_5
      refine wp_run 4 (pc' := 12) (ls' := [some (.inr (.inr (r_Nought0, 0))), some (.inl d), some (.inl i), some (.inl a), some (.inl w)]) (st' := [.inl d, .inr (.inr (r_Shape0, 0)), .inl w]) (σ' := srl σ []) rfl ?_
      refine wp_fnv (v := .inl (sW n D d)) rfl rfl rfl rfl (ct_X5_wordsOf_Shape0 σ n D p d hI (by omega)) ?_
      show en_wp k_X3_normalAt 15 [some (.inr (.inr (r_Nought0, 0))), some (.inl d), some (.inl i), some (.inl a), some (.inl w)] [.inl (sW n D d), .inl w] (srl σ []) _
      have q_1 : 0 ≤ sW n D d ∧ sW n D d ≤ 256 := sW_b hO
      refine wp_ic_ge rfl (by omega) (by omega) (fun h_2 => ?_) (fun h_2 => ?_)
      · show en_wp k_X3_normalAt 45 [some (.inr (.inr (r_Nought0, 0))), some (.inl d), some (.inl i), some (.inl a), some (.inl w)] [] (srl σ []) _
        refine wp_run 1 (pc' := 46) (ls' := [some (.inr (.inr (r_Nought0, 0))), some (.inl d), some (.inl i), some (.inl a), some (.inl w)]) (st' := [.inl (-1)]) (σ' := srl σ []) rfl ?_
        exact wp_iret rfl ⟨(by rw [show sW n D d = w by omega, hn1]), rfl⟩
      · show en_wp k_X3_normalAt 18 [some (.inr (.inr (r_Nought0, 0))), some (.inl d), some (.inl i), some (.inl a), some (.inl w)] [] (srl σ []) _
        refine wp_run 3 (pc' := 22) (ls' := [some (.inr (.inr (r_Nought0, 0))), some (.inl d), some (.inl i), some (.inl a), some (.inl w)]) (st' := [.inl w, .inl d, .inr (.inr (r_Nought0, 0))]) (σ' := srl σ []) rfl ?_
        refine wp_fnv (v := .inl (bI ((0 ≤ w ∧ w < sW n D d) ∧ ¬ L (sS n D d + w) = 0))) rfl rfl rfl rfl (ct_X3_isLeading_Nought0_L σ n D p L R d w hI (by omega) (by omega) g01 hLL (by omega)) ?_
        show en_wp k_X3_normalAt 25 [some (.inr (.inr (r_Nought0, 0))), some (.inl d), some (.inl i), some (.inl a), some (.inl w)] [.inl (bI ((0 ≤ w ∧ w < sW n D d) ∧ ¬ L (sS n D d + w) = 0))] (srl σ []) _
        refine wp_if_neb rfl (fun h_3 => ?_) (fun h_3 => ?_)
        · show en_wp k_X3_normalAt 39 [some (.inr (.inr (r_Nought0, 0))), some (.inl d), some (.inl i), some (.inl a), some (.inl w)] [] (srl σ []) _
          refine wp_run 2 (pc' := 5) (ls' := [some (.inr (.inr (r_Nought0, 0))), some (.inl d), some (.inl i), some (.inl a), some (.inl (w + 1))]) (st' := []) (σ' := srl σ []) rfl ?_
          exact ih_5 a (w + 1) (by omega) ⟨by rw [ha.1, sm_s _ hw.1, bI_f (by omega)]; omega, by omega, by omega⟩ (nth_miss hw.1 hn1 (.inl (by rw [bI_f (by omega)]; decide))) (by omega)
        · show en_wp k_X3_normalAt 28 [some (.inr (.inr (r_Nought0, 0))), some (.inl d), some (.inl i), some (.inl a), some (.inl w)] [] (srl σ []) _
          refine wp_run 2 (pc' := 30) (ls' := [some (.inr (.inr (r_Nought0, 0))), some (.inl d), some (.inl i), some (.inl a), some (.inl w)]) (st' := [.inl i, .inl a]) (σ' := srl σ []) rfl ?_
          refine wp_ic_ne rfl (by omega) (by omega) (fun h_4 => ?_) (fun h_4 => ?_)
          · show en_wp k_X3_normalAt 36 [some (.inr (.inr (r_Nought0, 0))), some (.inl d), some (.inl i), some (.inl a), some (.inl w)] [] (srl σ []) _
            refine wp_run 3 (pc' := 5) (ls' := [some (.inr (.inr (r_Nought0, 0))), some (.inl d), some (.inl i), some (.inl (a + 1)), some (.inl (w + 1))]) (st' := []) (σ' := srl σ []) rfl ?_
            exact ih_5 (a + 1) (w + 1) (by omega) ⟨by rw [ha.1, sm_s _ hw.1, bI_t (by omega)], by omega, by omega⟩ (nth_miss hw.1 hn1 (.inr (by omega))) (by omega)
          · show en_wp k_X3_normalAt 33 [some (.inr (.inr (r_Nought0, 0))), some (.inl d), some (.inl i), some (.inl a), some (.inl w)] [] (srl σ []) _
            refine wp_run 1 (pc' := 35) (ls' := [some (.inr (.inr (r_Nought0, 0))), some (.inl d), some (.inl i), some (.inl a), some (.inl w)]) (st' := [.inl w]) (σ' := srl σ []) rfl ?_
            exact wp_iret rfl ⟨(by rw [nth_hit hw.1 (by omega) hn1 (bI_t (by omega)) (by omega)]), rfl⟩
  refine wp_run 4 (pc' := 5) (ls' := [some (.inr (.inr (r_Nought0, 0))), some (.inl d), some (.inl i), some (.inl 0), some (.inl 0)]) (st' := []) (σ' := srl σ []) rfl ?_
  exact L_5 _ 0 0 (by omega) ⟨rfl, by omega, by omega⟩ rfl (Nat.lt_succ_self _)
theorem ct_X3_basisAt_Nought0 (σ : en_m) (n : Int) (D : Int) (p : Int) (L : Int → Int) (R : Int) (d : Int) (i : Int) (hI : cS0 σ n D p) (g01 : R01 ((σ r_Nought0_leading))) (hLL : ∀ x, 0 ≤ x → x < sS n D (R + 1) → (σ r_Nought0_leading) x = L x) (hRD : R ≤ D) (h1 : 0 ≤ d ∧ d ≤ R) (h2 : i32 i) : en_fn z_X3_basisAt [.inr (.inr (r_Nought0, 0)), .inl d, .inl i] σ (.inl (nth (fun w => bI (isB L n D d w)) i (sW n D d).toNat)) := by
  show en_wp k_X3_basisAt 0 [some (.inr (.inr (r_Nought0, 0))), some (.inl d), some (.inl i), none, none] [] (srl σ []) (fun r σ' => r = some (.inl (nth (fun w => bI (isB L n D d w)) i (sW n D d).toNat)) ∧ σ' = σ)
  have hI2 := hI
  obtain ⟨hO, hn, hD, hp, hm, hst, hln⟩ := hI2
  obtain ⟨⟨hO1, hO2⟩, ⟨hO3, hO4⟩, hO5, hO6, hO7, hO8⟩ := id hO
  have hWb := sW_b (k := d) hO
  have L_5 : ∀ (N : Nat) (a : Int) (w : Int), (0 ≤ w ∧ w ≤ sW n D d) → (a = sm (fun w => bI (isB L n D d w)) w.toNat ∧ 0 ≤ a ∧ a ≤ w) → (nth (fun w => bI (isB L n D d w)) i w.toNat = -1) → (sW n D d - w).toNat < N → en_wp k_X3_basisAt 5 [some (.inr (.inr (r_Nought0, 0))), some (.inl d), some (.inl i), some (.inl a), some (.inl w)] [] (srl σ []) (fun r σ' => r = some (.inl (nth (fun w => bI (isB L n D d w)) i (sW n D d).toNat)) ∧ σ' = σ) := by
    intro N
    induction N with
    | zero => intro a w; intros; omega
    | succ N ih_5 =>
      intro a w hw ha hn1 hN_5
      refine wp_run 4 (pc' := 12) (ls' := [some (.inr (.inr (r_Nought0, 0))), some (.inl d), some (.inl i), some (.inl a), some (.inl w)]) (st' := [.inl d, .inr (.inr (r_Shape0, 0)), .inl w]) (σ' := srl σ []) rfl ?_
      refine wp_fnv (v := .inl (sW n D d)) rfl rfl rfl rfl (ct_X5_wordsOf_Shape0 σ n D p d hI (by omega)) ?_
      show en_wp k_X3_basisAt 15 [some (.inr (.inr (r_Nought0, 0))), some (.inl d), some (.inl i), some (.inl a), some (.inl w)] [.inl (sW n D d), .inl w] (srl σ []) _
      have q_1 : 0 ≤ sW n D d ∧ sW n D d ≤ 256 := sW_b hO
      refine wp_ic_ge rfl (by omega) (by omega) (fun h_2 => ?_) (fun h_2 => ?_)
      · show en_wp k_X3_basisAt 45 [some (.inr (.inr (r_Nought0, 0))), some (.inl d), some (.inl i), some (.inl a), some (.inl w)] [] (srl σ []) _
        refine wp_run 1 (pc' := 46) (ls' := [some (.inr (.inr (r_Nought0, 0))), some (.inl d), some (.inl i), some (.inl a), some (.inl w)]) (st' := [.inl (-1)]) (σ' := srl σ []) rfl ?_
        exact wp_iret rfl ⟨(by rw [show sW n D d = w by omega, hn1]), rfl⟩
      · show en_wp k_X3_basisAt 18 [some (.inr (.inr (r_Nought0, 0))), some (.inl d), some (.inl i), some (.inl a), some (.inl w)] [] (srl σ []) _
        refine wp_run 3 (pc' := 22) (ls' := [some (.inr (.inr (r_Nought0, 0))), some (.inl d), some (.inl i), some (.inl a), some (.inl w)]) (st' := [.inl w, .inl d, .inr (.inr (r_Nought0, 0))]) (σ' := srl σ []) rfl ?_
        refine wp_fnv (v := .inl (bI ((0 ≤ w ∧ w < sW n D d) ∧ isB L n D d w))) rfl rfl rfl rfl (ct_X3_isBasic_Nought0_L σ n D p L R d w hI (by omega) (by omega) g01 hLL (by omega)) ?_
        show en_wp k_X3_basisAt 25 [some (.inr (.inr (r_Nought0, 0))), some (.inl d), some (.inl i), some (.inl a), some (.inl w)] [.inl (bI ((0 ≤ w ∧ w < sW n D d) ∧ isB L n D d w))] (srl σ []) _
        refine wp_if_eqb rfl (fun h_3 => ?_) (fun h_3 => ?_)
        · show en_wp k_X3_basisAt 39 [some (.inr (.inr (r_Nought0, 0))), some (.inl d), some (.inl i), some (.inl a), some (.inl w)] [] (srl σ []) _
          refine wp_run 2 (pc' := 5) (ls' := [some (.inr (.inr (r_Nought0, 0))), some (.inl d), some (.inl i), some (.inl a), some (.inl (w + 1))]) (st' := []) (σ' := srl σ []) rfl ?_
          exact ih_5 a (w + 1) (by omega) ⟨by rw [ha.1, sm_s _ hw.1, bI_f (fun q => ‹¬ ((0 ≤ w ∧ w < sW n D d) ∧ isB L n D d w)› ⟨by omega, q⟩)]; omega, by omega, by omega⟩ (nth_miss hw.1 hn1 (.inl (by rw [bI_f (fun q => ‹¬ ((0 ≤ w ∧ w < sW n D d) ∧ isB L n D d w)› ⟨by omega, q⟩)]; decide))) (by omega)
        · show en_wp k_X3_basisAt 28 [some (.inr (.inr (r_Nought0, 0))), some (.inl d), some (.inl i), some (.inl a), some (.inl w)] [] (srl σ []) _
          refine wp_run 2 (pc' := 30) (ls' := [some (.inr (.inr (r_Nought0, 0))), some (.inl d), some (.inl i), some (.inl a), some (.inl w)]) (st' := [.inl i, .inl a]) (σ' := srl σ []) rfl ?_
          refine wp_ic_ne rfl (by omega) (by omega) (fun h_4 => ?_) (fun h_4 => ?_)
          · show en_wp k_X3_basisAt 36 [some (.inr (.inr (r_Nought0, 0))), some (.inl d), some (.inl i), some (.inl a), some (.inl w)] [] (srl σ []) _
            refine wp_run 3 (pc' := 5) (ls' := [some (.inr (.inr (r_Nought0, 0))), some (.inl d), some (.inl i), some (.inl (a + 1)), some (.inl (w + 1))]) (st' := []) (σ' := srl σ []) rfl ?_
            exact ih_5 (a + 1) (w + 1) (by omega) ⟨by rw [ha.1, sm_s _ hw.1, bI_t (‹(0 ≤ w ∧ w < sW n D d) ∧ isB L n D d w›).2], by omega, by omega⟩ (nth_miss hw.1 hn1 (.inr (by omega))) (by omega)
          · show en_wp k_X3_basisAt 33 [some (.inr (.inr (r_Nought0, 0))), some (.inl d), some (.inl i), some (.inl a), some (.inl w)] [] (srl σ []) _
            refine wp_run 1 (pc' := 35) (ls' := [some (.inr (.inr (r_Nought0, 0))), some (.inl d), some (.inl i), some (.inl a), some (.inl w)]) (st' := [.inl w]) (σ' := srl σ []) rfl ?_
            exact wp_iret rfl ⟨(by rw [nth_hit hw.1 (by omega) hn1 (bI_t (‹(0 ≤ w ∧ w < sW n D d) ∧ isB L n D d w›).2) (by omega)]), rfl⟩
  refine wp_run 4 (pc' := 5) (ls' := [some (.inr (.inr (r_Nought0, 0))), some (.inl d), some (.inl i), some (.inl 0), some (.inl 0)]) (st' := []) (σ' := srl σ []) rfl ?_
  exact L_5 _ 0 0 (by omega) ⟨rfl, by omega, by omega⟩ rfl (Nat.lt_succ_self _)
theorem ct_X3_basisOf_Nought0 (σ : en_m) (n : Int) (D : Int) (p : Int) (L : Int → Int) (R : Int) (d : Int) (hI : cS0 σ n D p) (g01 : R01 ((σ r_Nought0_leading))) (hLL : ∀ x, 0 ≤ x → x < sS n D (R + 1) → (σ r_Nought0_leading) x = L x) (hRD : R ≤ D) (h1 : 0 ≤ d ∧ d ≤ 8) (hRR : d ≤ R ∨ D < d) : en_fn z_X3_basisOf [.inr (.inr (r_Nought0, 0)), .inl d] σ (.inl (cB L n D d)) := by
  show en_wp k_X3_basisOf 0 [some (.inr (.inr (r_Nought0, 0))), some (.inl d), none, none] [] (srl σ []) (fun r σ' => r = some (.inl (cB L n D d)) ∧ σ' = σ)
  have hI2 := hI
  obtain ⟨hO, hn, hD, hp, hm, hst, hln⟩ := hI2
  obtain ⟨⟨hO1, hO2⟩, ⟨hO3, hO4⟩, hO5, hO6, hO7, hO8⟩ := id hO
  have hWb := sW_b (k := d) hO
  have L_4 : ∀ (N : Nat) (c : Int) (w : Int), (0 ≤ w ∧ w ≤ sW n D d) → (c = sm (fun w => bI (isB L n D d w)) w.toNat) → (sW n D d - w).toNat < N → en_wp k_X3_basisOf 4 [some (.inr (.inr (r_Nought0, 0))), some (.inl d), some (.inl c), some (.inl w)] [] (srl σ []) (fun r σ' => r = some (.inl (cB L n D d)) ∧ σ' = σ) := by
    intro N
    induction N with
    | zero => intro c w; intros; omega
    | succ N ih_4 =>
      intro c w hw hc hN_4
      refine wp_run 4 (pc' := 10) (ls' := [some (.inr (.inr (r_Nought0, 0))), some (.inl d), some (.inl c), some (.inl w)]) (st' := [.inl d, .inr (.inr (r_Shape0, 0)), .inl w]) (σ' := srl σ []) rfl ?_
      refine wp_fnv (v := .inl (sW n D d)) rfl rfl rfl rfl (ct_X5_wordsOf_Shape0 σ n D p d hI (by omega)) ?_
      show en_wp k_X3_basisOf 13 [some (.inr (.inr (r_Nought0, 0))), some (.inl d), some (.inl c), some (.inl w)] [.inl (sW n D d), .inl w] (srl σ []) _
      have q_1 : 0 ≤ sW n D d ∧ sW n D d ≤ 256 := sW_b hO
      refine wp_ic_ge rfl (by omega) (by omega) (fun h_2 => ?_) (fun h_2 => ?_)
      · show en_wp k_X3_basisOf 39 [some (.inr (.inr (r_Nought0, 0))), some (.inl d), some (.inl c), some (.inl w)] [] (srl σ []) _
        refine wp_run 1 (pc' := 40) (ls' := [some (.inr (.inr (r_Nought0, 0))), some (.inl d), some (.inl c), some (.inl w)]) (st' := [.inl c]) (σ' := srl σ []) rfl ?_
        exact wp_iret rfl ⟨(by rw [hc, show w = sW n D d by omega]; rfl), rfl⟩
      · show en_wp k_X3_basisOf 16 [some (.inr (.inr (r_Nought0, 0))), some (.inl d), some (.inl c), some (.inl w)] [] (srl σ []) _
        refine wp_run 4 (pc' := 20) (ls' := [some (.inr (.inr (r_Nought0, 0))), some (.inl d), some (.inl c), some (.inl w)]) (st' := [.inl w, .inl d, .inr (.inr (r_Nought0, 0)), .inl c]) (σ' := srl σ []) rfl ?_
        refine wp_fnv (v := .inl (bI ((0 ≤ w ∧ w < sW n D d) ∧ isB L n D d w))) rfl rfl rfl rfl (ct_X3_isBasic_Nought0_L σ n D p L R d w hI (by omega) (by omega) g01 hLL (by omega)) ?_
        show en_wp k_X3_basisOf 23 [some (.inr (.inr (r_Nought0, 0))), some (.inl d), some (.inl c), some (.inl w)] [.inl (bI ((0 ≤ w ∧ w < sW n D d) ∧ isB L n D d w)), .inl c] (srl σ []) _
        refine wp_if_eqb rfl (fun h_3 => ?_) (fun h_3 => ?_)
        · show en_wp k_X3_basisOf 30 [some (.inr (.inr (r_Nought0, 0))), some (.inl d), some (.inl c), some (.inl w)] [.inl c] (srl σ []) _
          refine wp_run 5 (pc' := 4) (ls' := [some (.inr (.inr (r_Nought0, 0))), some (.inl d), some (.inl (c + 0)), some (.inl (w + 1))]) (st' := []) (σ' := srl σ []) rfl ?_
          exact ih_4 (c + 0) (w + 1) (by omega) (by rw [hc, sm_s _ hw.1, bI_f (fun q => ‹¬ ((0 ≤ w ∧ w < sW n D d) ∧ isB L n D d w)› ⟨by omega, q⟩)]) (by omega)
        · show en_wp k_X3_basisOf 26 [some (.inr (.inr (r_Nought0, 0))), some (.inl d), some (.inl c), some (.inl w)] [.inl c] (srl σ []) _
          refine wp_run 6 (pc' := 4) (ls' := [some (.inr (.inr (r_Nought0, 0))), some (.inl d), some (.inl (c + 1)), some (.inl (w + 1))]) (st' := []) (σ' := srl σ []) rfl ?_
          exact ih_4 (c + 1) (w + 1) (by omega) (by rw [hc, sm_s _ hw.1, bI_t (‹(0 ≤ w ∧ w < sW n D d) ∧ isB L n D d w›).2]) (by omega)
  refine wp_run 4 (pc' := 4) (ls' := [some (.inr (.inr (r_Nought0, 0))), some (.inl d), some (.inl 0), some (.inl 0)]) (st' := []) (σ' := srl σ []) rfl ?_
  exact L_4 _ 0 0 (by omega) rfl (Nat.lt_succ_self _)
theorem ct_X3_basisInAll_Nought0 (σ : en_m) (n : Int) (D : Int) (p : Int) (L : Int → Int) (R : Int) (hI : cS0 σ n D p) (g01 : R01 ((σ r_Nought0_leading))) (hLL : ∀ x, 0 ≤ x → x < sS n D (R + 1) → (σ r_Nought0_leading) x = L x) (hRD : R ≤ D) (hRe : R = D) : en_fn z_X3_basisInAll [.inr (.inr (r_Nought0, 0))] σ (.inl (sm (fun d => cB L n D d) (D + 1).toNat)) := by
  show en_wp k_X3_basisInAll 0 [some (.inr (.inr (r_Nought0, 0))), none, none] [] (srl σ []) (fun r σ' => r = some (.inl (sm (fun d => cB L n D d) (D + 1).toNat)) ∧ σ' = σ)
  have hI2 := hI
  obtain ⟨hO, hn, hD, hp, hm, hst, hln⟩ := hI2
  obtain ⟨⟨hO1, hO2⟩, ⟨hO3, hO4⟩, hO5, hO6, hO7, hO8⟩ := id hO
  have L_4 : ∀ (N : Nat) (c : Int) (d : Int), (0 ≤ d ∧ d ≤ D + 1) → (c = sm (fun d => cB L n D d) d.toNat) → (D + 1 - d).toNat < N → en_wp k_X3_basisInAll 4 [some (.inr (.inr (r_Nought0, 0))), some (.inl c), some (.inl d)] [] (srl σ []) (fun r σ' => r = some (.inl (sm (fun d => cB L n D d) (D + 1).toNat)) ∧ σ' = σ) := by
    intro N
    induction N with
    | zero => intro c d; intros; omega
    | succ N ih_4 =>
      intro c d hd hc hN_4
      refine wp_run 3 (pc' := 9) (ls' := [some (.inr (.inr (r_Nought0, 0))), some (.inl c), some (.inl d)]) (st' := [.inr (.inr (r_Shape0, 0)), .inl d]) (σ' := srl σ []) rfl ?_
      refine wp_fnv (v := .inl D) rfl rfl rfl rfl (ct_X5_longest_Shape0 σ n D p hI) ?_
      show en_wp k_X3_basisInAll 12 [some (.inr (.inr (r_Nought0, 0))), some (.inl c), some (.inl d)] [.inl D, .inl d] (srl σ []) _
      refine wp_ic_gt rfl (by omega) (by omega) (fun h_1 => ?_) (fun h_1 => ?_)
      · show en_wp k_X3_basisInAll 29 [some (.inr (.inr (r_Nought0, 0))), some (.inl c), some (.inl d)] [] (srl σ []) _
        refine wp_run 1 (pc' := 30) (ls' := [some (.inr (.inr (r_Nought0, 0))), some (.inl c), some (.inl d)]) (st' := [.inl c]) (σ' := srl σ []) rfl ?_
        exact wp_iret rfl ⟨(by rw [hc, show d = D + 1 by omega]), rfl⟩
      · show en_wp k_X3_basisInAll 15 [some (.inr (.inr (r_Nought0, 0))), some (.inl c), some (.inl d)] [] (srl σ []) _
        refine wp_run 3 (pc' := 18) (ls' := [some (.inr (.inr (r_Nought0, 0))), some (.inl c), some (.inl d)]) (st' := [.inl d, .inr (.inr (r_Nought0, 0)), .inl c]) (σ' := srl σ []) rfl ?_
        refine wp_fnv (v := .inl (cB L n D d)) rfl rfl rfl rfl (ct_X3_basisOf_Nought0 σ n D p L R d hI g01 hLL (by omega) (by omega) (by omega)) ?_
        show en_wp k_X3_basisInAll 21 [some (.inr (.inr (r_Nought0, 0))), some (.inl c), some (.inl d)] [.inl (cB L n D d), .inl c] (srl σ []) _
        have q_2 : 0 ≤ cB L n D d ∧ cB L n D d ≤ 256 := cB_b _ hO
        refine wp_run 4 (pc' := 4) (ls' := [some (.inr (.inr (r_Nought0, 0))), some (.inl (c + (cB L n D d))), some (.inl (d + 1))]) (st' := []) (σ' := srl σ []) rfl ?_
        exact ih_4 (c + (cB L n D d)) (d + 1) (by omega) (by rw [hc, sm_s _ hd.1]) (by omega)
  refine wp_run 4 (pc' := 4) (ls' := [some (.inr (.inr (r_Nought0, 0))), some (.inl 0), some (.inl 0)]) (st' := []) (σ' := srl σ []) rfl ?_
  exact L_4 _ 0 0 (by omega) rfl (Nat.lt_succ_self _)
theorem ct_X3_noughtLaws_Nought0 (σ : en_m) (n : Int) (D : Int) (p : Int) (hI : cS0 σ n D p) (h1 : 0 ≤ (σ r_Nought0_lawsNow) 0 ∧ (σ r_Nought0_lawsNow) 0 ≤ 16) (h2 : ∀ k, i32 ((σ r_Nought0_lengths) k)) : en_fn z_X3_noughtLaws [.inr (.inr (r_Nought0, 0))] σ (.inl (sm (fun k => if (σ r_Nought0_lengths) k = 0 then 1 else 0) ((σ r_Nought0_lawsNow) 0).toNat)) := by
  show en_wp k_X3_noughtLaws 0 [some (.inr (.inr (r_Nought0, 0))), none, none] [] (srl σ []) (fun r σ' => r = some (.inl (sm (fun k => if (σ r_Nought0_lengths) k = 0 then 1 else 0) ((σ r_Nought0_lawsNow) 0).toNat)) ∧ σ' = σ)
  have hI2 := hI
  obtain ⟨hO, hn, hD, hp, hm, hst, hln⟩ := hI2
  obtain ⟨⟨hO1, hO2⟩, ⟨hO3, hO4⟩, hO5, hO6, hO7, hO8⟩ := id hO
  have L_4 : ∀ (N : Nat) (c : Int) (k : Int), (0 ≤ k ∧ k ≤ σ r_Nought0_lawsNow 0) → (c = sm (fun k => if σ r_Nought0_lengths k = 0 then 1 else 0) k.toNat) → (σ r_Nought0_lawsNow 0 - k).toNat < N → en_wp k_X3_noughtLaws 4 [some (.inr (.inr (r_Nought0, 0))), some (.inl c), some (.inl k)] [] (srl σ []) (fun r σ' => r = some (.inl (sm (fun k => if (σ r_Nought0_lengths) k = 0 then 1 else 0) ((σ r_Nought0_lawsNow) 0).toNat)) ∧ σ' = σ) := by
    intro N
    induction N with
    | zero => intro c k; intros; omega
    | succ N ih_4 =>
      intro c k hk hc hN_4
      refine wp_run 3 (pc' := 9) (ls' := [some (.inr (.inr (r_Nought0, 0))), some (.inl c), some (.inl k)]) (st' := [.inl (σ r_Nought0_lawsNow 0), .inl k]) (σ' := srl σ []) rfl ?_
      refine wp_ic_ge rfl (by omega) (by omega) (fun h_1 => ?_) (fun h_1 => ?_)
      · show en_wp k_X3_noughtLaws 35 [some (.inr (.inr (r_Nought0, 0))), some (.inl c), some (.inl k)] [] (srl σ []) _
        refine wp_run 1 (pc' := 36) (ls' := [some (.inr (.inr (r_Nought0, 0))), some (.inl c), some (.inl k)]) (st' := [.inl c]) (σ' := srl σ []) rfl ?_
        exact wp_iret rfl ⟨(by rw [hc, show k = σ r_Nought0_lawsNow 0 by omega]), rfl⟩
      · show en_wp k_X3_noughtLaws 12 [some (.inr (.inr (r_Nought0, 0))), some (.inl c), some (.inl k)] [] (srl σ []) _
        refine wp_run 4 (pc' := 18) (ls' := [some (.inr (.inr (r_Nought0, 0))), some (.inl c), some (.inl k)]) (st' := [.inl k, .inr (.inr (r_Nought0_lengths, 0)), .inl c]) (σ' := srl σ []) rfl ?_
        refine wp_iald0 rfl rfl (by omega) ?_
        show en_wp k_X3_noughtLaws 19 [some (.inr (.inr (r_Nought0, 0))), some (.inl c), some (.inl k)] [.inl (σ r_Nought0_lengths k), .inl c] (srl σ []) _
        have hl9 := h2 k
        refine wp_if_ne rfl (by omega) (fun h_2 => ?_) (fun h_2 => ?_)
        · show en_wp k_X3_noughtLaws 26 [some (.inr (.inr (r_Nought0, 0))), some (.inl c), some (.inl k)] [.inl c] (srl σ []) _
          refine wp_run 5 (pc' := 4) (ls' := [some (.inr (.inr (r_Nought0, 0))), some (.inl (c + 0)), some (.inl (k + 1))]) (st' := []) (σ' := srl σ []) rfl ?_
          exact ih_4 (c + 0) (k + 1) (by omega) (by rw [hc, sm_s _ hk.1]; first | rw [if_pos (by assumption)] | rw [if_neg (by assumption)]) (by omega)
        · show en_wp k_X3_noughtLaws 22 [some (.inr (.inr (r_Nought0, 0))), some (.inl c), some (.inl k)] [.inl c] (srl σ []) _
          refine wp_run 6 (pc' := 4) (ls' := [some (.inr (.inr (r_Nought0, 0))), some (.inl (c + 1)), some (.inl (k + 1))]) (st' := []) (σ' := srl σ []) rfl ?_
          exact ih_4 (c + 1) (k + 1) (by omega) (by rw [hc, sm_s _ hk.1]; first | rw [if_pos (by assumption)] | rw [if_neg (by assumption)]) (by omega)
  refine wp_run 4 (pc' := 4) (ls' := [some (.inr (.inr (r_Nought0, 0))), some (.inl 0), some (.inl 0)]) (st' := []) (σ' := srl σ []) rfl ?_
  exact L_4 _ 0 0 (by omega) rfl (Nat.lt_succ_self _)
theorem ct_X3_sumOfSizes_Nought0 (σ : en_m) (n : Int) (D : Int) (p : Int) (hI : cS0 σ n D p) (hsz : ∀ k, 0 ≤ k → k ≤ D → 0 ≤ (σ r_Nought0_sizes) k ∧ (σ r_Nought0_sizes) k ≤ 256) : en_ct z_X3_sumOfSizes [.inr (.inr (r_Nought0, 0))] σ (fun r σ' => ∃ (rr : Int), r = some (.inl rr) ∧ σ' = srl σ [] ∧ ((rr = -1 ∧ ∀ k, 0 ≤ k → k ≤ D → ¬ (σ r_Nought0_sizes) k = 0) ∨ ((∃ k, 0 ≤ k ∧ k ≤ D ∧ (σ r_Nought0_sizes) k = 0) ∧ rr = sm (fun k => (σ r_Nought0_sizes) k) (D + 1).toNat ∧ 0 ≤ rr ∧ rr ≤ 2048))) := by
  show en_wp k_X3_sumOfSizes 0 [some (.inr (.inr (r_Nought0, 0))), none, none, none] [] (srl σ []) (fun r σ' => ∃ (rr : Int), r = some (.inl rr) ∧ σ' = srl σ [] ∧ ((rr = -1 ∧ ∀ k, 0 ≤ k → k ≤ D → ¬ (σ r_Nought0_sizes) k = 0) ∨ ((∃ k, 0 ≤ k ∧ k ≤ D ∧ (σ r_Nought0_sizes) k = 0) ∧ rr = sm (fun k => (σ r_Nought0_sizes) k) (D + 1).toNat ∧ 0 ≤ rr ∧ rr ≤ 2048)))
  have hI2 := hI
  obtain ⟨hO, hn, hD, hp, hm, hst, hln⟩ := hI2
  obtain ⟨⟨hO1, hO2⟩, ⟨hO3, hO4⟩, hO5, hO6, hO7, hO8⟩ := id hO
  have L_6 : ∀ (N : Nat) (c : Int) (b : Int) (k : Int), (0 ≤ k ∧ k ≤ D + 1) → (c = sm (fun k => σ r_Nought0_sizes k) k.toNat ∧ 0 ≤ c ∧ c ≤ 256 * k) → ((b = 1 ∧ ∃ j, 0 ≤ j ∧ j < k ∧ σ r_Nought0_sizes j = 0) ∨ (b = 0 ∧ ∀ j, 0 ≤ j → j < k → ¬ σ r_Nought0_sizes j = 0)) → (D + 1 - k).toNat < N → en_wp k_X3_sumOfSizes 6 [some (.inr (.inr (r_Nought0, 0))), some (.inl c), some (.inl b), some (.inl k)] [] (srl σ []) (fun r σ' => ∃ (rr : Int), r = some (.inl rr) ∧ σ' = srl σ [] ∧ ((rr = -1 ∧ ∀ k, 0 ≤ k → k ≤ D → ¬ (σ r_Nought0_sizes) k = 0) ∨ ((∃ k, 0 ≤ k ∧ k ≤ D ∧ (σ r_Nought0_sizes) k = 0) ∧ rr = sm (fun k => (σ r_Nought0_sizes) k) (D + 1).toNat ∧ 0 ≤ rr ∧ rr ≤ 2048))) := by
    intro N
    induction N with
    | zero => intro c b k; intros; omega
    | succ N ih_6 =>
      intro c b k hk hc hb hN_6
      refine wp_run 3 (pc' := 11) (ls' := [some (.inr (.inr (r_Nought0, 0))), some (.inl c), some (.inl b), some (.inl k)]) (st' := [.inr (.inr (r_Shape0, 0)), .inl k]) (σ' := srl σ []) rfl ?_
      refine wp_fnv (v := .inl D) rfl rfl rfl rfl (ct_X5_longest_Shape0 σ n D p hI) ?_
      show en_wp k_X3_sumOfSizes 14 [some (.inr (.inr (r_Nought0, 0))), some (.inl c), some (.inl b), some (.inl k)] [.inl D, .inl k] (srl σ []) _
      refine wp_ic_gt rfl (by omega) (by omega) (fun h_1 => ?_) (fun h_1 => ?_)
      · show en_wp k_X3_sumOfSizes 49 [some (.inr (.inr (r_Nought0, 0))), some (.inl c), some (.inl b), some (.inl k)] [] (srl σ []) _
        refine wp_run 1 (pc' := 50) (ls' := [some (.inr (.inr (r_Nought0, 0))), some (.inl c), some (.inl b), some (.inl k)]) (st' := [.inl b]) (σ' := srl σ []) rfl ?_
        refine wp_if_eq rfl (by omega) (fun h_2 => ?_) (fun h_2 => ?_)
        · have hb0 := h_2
          show en_wp k_X3_sumOfSizes 57 [some (.inr (.inr (r_Nought0, 0))), some (.inl c), some (.inl b), some (.inl k)] [] (srl σ []) _
          refine wp_run 1 (pc' := 58) (ls' := [some (.inr (.inr (r_Nought0, 0))), some (.inl c), some (.inl b), some (.inl k)]) (st' := [.inl (-1)]) (σ' := srl σ []) rfl ?_
          exact wp_iret rfl ⟨(-1), rfl, srl_eq (l' := []) trivial trivial, (by rcases hb with ⟨h7, j, h8, h9, h10⟩ | ⟨h7, h8⟩ <;> first | exact .inr ⟨⟨j, h8, by omega, h10⟩, by rw [hc.1, show k = D + 1 by omega], by omega, by omega⟩ | exact .inl ⟨rfl, fun j h9 h10 => h8 j h9 (by omega)⟩ | (exfalso; omega))⟩
        · have hb1 := h_2
          show en_wp k_X3_sumOfSizes 53 [some (.inr (.inr (r_Nought0, 0))), some (.inl c), some (.inl b), some (.inl k)] [] (srl σ []) _
          refine wp_run 2 (pc' := 58) (ls' := [some (.inr (.inr (r_Nought0, 0))), some (.inl c), some (.inl b), some (.inl k)]) (st' := [.inl c]) (σ' := srl σ []) rfl ?_
          exact wp_iret rfl ⟨c, rfl, srl_eq (l' := []) trivial trivial, (by rcases hb with ⟨h7, j, h8, h9, h10⟩ | ⟨h7, h8⟩ <;> first | exact .inr ⟨⟨j, h8, by omega, h10⟩, by rw [hc.1, show k = D + 1 by omega], by omega, by omega⟩ | exact .inl ⟨rfl, fun j h9 h10 => h8 j h9 (by omega)⟩ | (exfalso; omega))⟩
      · show en_wp k_X3_sumOfSizes 17 [some (.inr (.inr (r_Nought0, 0))), some (.inl c), some (.inl b), some (.inl k)] [] (srl σ []) _
        refine wp_run 3 (pc' := 20) (ls' := [some (.inr (.inr (r_Nought0, 0))), some (.inl c), some (.inl b), some (.inl k)]) (st' := [.inl k, .inr (.inr (r_Nought0, 0)), .inl c]) (σ' := srl σ []) rfl ?_
        have hz := hsz k hk.1 (by omega)
        have hb01 : b = 0 ∨ b = 1 := by rcases hb with h | h <;> omega
        refine wp_fnv (v := .inl (if 0 ≤ k ∧ k ≤ D then (σ r_Nought0_sizes) k else 0)) rfl rfl rfl rfl (ct_X3_sizeOf_Nought0 σ n D p k hI (by omega)) ?_
        show en_wp k_X3_sumOfSizes 23 [some (.inr (.inr (r_Nought0, 0))), some (.inl c), some (.inl b), some (.inl k)] [.inl (if 0 ≤ k ∧ k ≤ D then (σ r_Nought0_sizes) k else 0), .inl c] (srl σ []) _
        rw [if_pos (show 0 ≤ k ∧ k ≤ D by omega)]
        show en_wp k_X3_sumOfSizes 23 [some (.inr (.inr (r_Nought0, 0))), some (.inl c), some (.inl b), some (.inl k)] [.inl (σ r_Nought0_sizes k), .inl c] (srl σ []) _
        
        refine wp_run 3 (pc' := 26) (ls' := [some (.inr (.inr (r_Nought0, 0))), some (.inl (c + (σ r_Nought0_sizes k))), some (.inl b), some (.inl k)]) (st' := [.inl b]) (σ' := srl σ []) rfl ?_
        refine wp_if_ne rfl (by omega) (fun h_3 => ?_) (fun h_3 => ?_)
        · show en_wp k_X3_sumOfSizes 37 [some (.inr (.inr (r_Nought0, 0))), some (.inl (c + (σ r_Nought0_sizes k))), some (.inl b), some (.inl k)] [] (srl σ []) _
          refine wp_run 5 (pc' := 6) (ls' := [some (.inr (.inr (r_Nought0, 0))), some (.inl (c + (σ r_Nought0_sizes k))), some (.inl 1), some (.inl (k + 1))]) (st' := []) (σ' := srl σ []) rfl ?_
          exact ih_6 (c + (σ r_Nought0_sizes k)) 1 (k + 1) (by omega) ⟨by rw [hc.1, sm_s _ hk.1], by omega, by omega⟩ (.inl ⟨rfl, by rcases hb with ⟨_, j, h7, h8, h9⟩ | ⟨h7, _⟩; exact ⟨j, h7, by omega, h9⟩; exact absurd h7 (by assumption)⟩) (by omega)
        · show en_wp k_X3_sumOfSizes 29 [some (.inr (.inr (r_Nought0, 0))), some (.inl (c + (σ r_Nought0_sizes k))), some (.inl b), some (.inl k)] [] (srl σ []) _
          refine wp_run 2 (pc' := 31) (ls' := [some (.inr (.inr (r_Nought0, 0))), some (.inl (c + (σ r_Nought0_sizes k))), some (.inl b), some (.inl k)]) (st' := [.inl k, .inr (.inr (r_Nought0, 0))]) (σ' := srl σ []) rfl ?_
          refine wp_fnv (v := .inl (if 0 ≤ k ∧ k ≤ D then (σ r_Nought0_sizes) k else 0)) rfl rfl rfl rfl (ct_X3_sizeOf_Nought0 σ n D p k hI (by omega)) ?_
          show en_wp k_X3_sumOfSizes 34 [some (.inr (.inr (r_Nought0, 0))), some (.inl (c + (σ r_Nought0_sizes k))), some (.inl b), some (.inl k)] [.inl (if 0 ≤ k ∧ k ≤ D then (σ r_Nought0_sizes) k else 0)] (srl σ []) _
          rw [if_pos (show 0 ≤ k ∧ k ≤ D by omega)]
          show en_wp k_X3_sumOfSizes 34 [some (.inr (.inr (r_Nought0, 0))), some (.inl (c + (σ r_Nought0_sizes k))), some (.inl b), some (.inl k)] [.inl (σ r_Nought0_sizes k)] (srl σ []) _
          
          refine wp_if_ne rfl (by omega) (fun h_4 => ?_) (fun h_4 => ?_)
          · show en_wp k_X3_sumOfSizes 41 [some (.inr (.inr (r_Nought0, 0))), some (.inl (c + (σ r_Nought0_sizes k))), some (.inl b), some (.inl k)] [] (srl σ []) _
            refine wp_run 4 (pc' := 6) (ls' := [some (.inr (.inr (r_Nought0, 0))), some (.inl (c + (σ r_Nought0_sizes k))), some (.inl 0), some (.inl (k + 1))]) (st' := []) (σ' := srl σ []) rfl ?_
            exact ih_6 (c + (σ r_Nought0_sizes k)) 0 (k + 1) (by omega) ⟨by rw [hc.1, sm_s _ hk.1], by omega, by omega⟩ (.inr ⟨rfl, fun j h8 h9 => by rcases Int.lt_or_eq_of_le (show j ≤ k by omega) with h5 | h5 <;> first | (rcases hb with ⟨h7, _⟩ | ⟨_, h7⟩; omega; exact h7 j h8 h5) | (rw [h5]; assumption)⟩) (by omega)
          · show en_wp k_X3_sumOfSizes 37 [some (.inr (.inr (r_Nought0, 0))), some (.inl (c + (σ r_Nought0_sizes k))), some (.inl b), some (.inl k)] [] (srl σ []) _
            refine wp_run 5 (pc' := 6) (ls' := [some (.inr (.inr (r_Nought0, 0))), some (.inl (c + (σ r_Nought0_sizes k))), some (.inl 1), some (.inl (k + 1))]) (st' := []) (σ' := srl σ []) rfl ?_
            exact ih_6 (c + (σ r_Nought0_sizes k)) 1 (k + 1) (by omega) ⟨by rw [hc.1, sm_s _ hk.1], by omega, by omega⟩ (.inl ⟨rfl, k, hk.1, by omega, by assumption⟩) (by omega)
  refine wp_run 6 (pc' := 6) (ls' := [some (.inr (.inr (r_Nought0, 0))), some (.inl 0), some (.inl 0), some (.inl 0)]) (st' := []) (σ' := srl σ []) rfl ?_
  exact L_6 _ 0 0 0 (by omega) ⟨rfl, by omega, by omega⟩ (.inr ⟨rfl, fun j h8 h9 => by omega⟩) (Nat.lt_succ_self _)
theorem ct_X3_inverseOf_Nought0 (σ : en_m) (n : Int) (D : Int) (p : Int) (d : Int) (hI : cS0 σ n D p) (h1 : i32 d) (hsz : ∀ k, 0 ≤ k → k ≤ d → k ≤ D → 0 ≤ (σ r_Nought0_sizes) k ∧ (σ r_Nought0_sizes) k ≤ 256) : en_ct z_X3_inverseOf [.inr (.inr (r_Nought0, 0)), .inl d] σ (fun r σ' => ∃ (f_Nought0_series : Int → Int), ∃ (rr : Int), r = some (.inr (.inl rr)) ∧ σ' = srl σ [(r_Nought0_series, f_Nought0_series)] ∧ (((0 ≤ d ∧ d ≤ D) ∧ ∃ s, sers ((σ r_Nought0_sizes)) s d ∧ rr = s d) ∨ (¬ (0 ≤ d ∧ d ≤ D) ∧ rr = 0))) := by
  show en_wp k_X3_inverseOf 0 [some (.inr (.inr (r_Nought0, 0))), some (.inl d), none, none] [] (srl σ []) (fun r σ' => ∃ (f_Nought0_series : Int → Int), ∃ (rr : Int), r = some (.inr (.inl rr)) ∧ σ' = srl σ [(r_Nought0_series, f_Nought0_series)] ∧ (((0 ≤ d ∧ d ≤ D) ∧ ∃ s, sers ((σ r_Nought0_sizes)) s d ∧ rr = s d) ∨ (¬ (0 ≤ d ∧ d ≤ D) ∧ rr = 0)))
  have hI2 := hI
  obtain ⟨hO, hn, hD, hp, hm, hst, hln⟩ := hI2
  obtain ⟨⟨hO1, hO2⟩, ⟨hO3, hO4⟩, hO5, hO6, hO7, hO8⟩ := id hO
  have L_22 : ∀ (N : Nat) (k : Int) (SE : Int → Int), (0 ≤ d ∧ d ≤ D) → (1 ≤ k ∧ k ≤ d + 1) → (SE 0 = 1 ∧ ∀ j, 1 ≤ j → j < k → SE j = -(sm (fun i => σ r_Nought0_sizes (i + 1) * SE (j - (i + 1))) j.toNat)) → (d + 1 - k).toNat < N → en_wp k_X3_inverseOf 22 [some (.inr (.inr (r_Nought0, 0))), some (.inl d), some (.inl k), none] [] (srl σ [(r_Nought0_series, SE)]) (fun r σ' => ∃ (f_Nought0_series : Int → Int), ∃ (rr : Int), r = some (.inr (.inl rr)) ∧ σ' = srl σ [(r_Nought0_series, f_Nought0_series)] ∧ (((0 ≤ d ∧ d ≤ D) ∧ ∃ s, sers ((σ r_Nought0_sizes)) s d ∧ rr = s d) ∨ (¬ (0 ≤ d ∧ d ≤ D) ∧ rr = 0))) := by
    intro N
    induction N with
    | zero => intro k SE; intros; omega
    | succ N ih_22 =>
      intro k SE hd hk hS hN_22
      have L_36 : ∀ (N : Nat) (i : Int) (S2 : Int → Int), (k ≤ d) → (1 ≤ i ∧ i ≤ k + 1) → (S2 k = -(sm (fun i => σ r_Nought0_sizes (i + 1) * SE (k - (i + 1))) (i - 1).toNat) ∧ ∀ j, ¬ j = k → S2 j = SE j) → (k + 1 - i).toNat < N → en_wp k_X3_inverseOf 36 [some (.inr (.inr (r_Nought0, 0))), some (.inl d), some (.inl k), some (.inl i)] [] (srl σ [(r_Nought0_series, S2)]) (fun r σ' => ∃ (f_Nought0_series : Int → Int), ∃ (rr : Int), r = some (.inr (.inl rr)) ∧ σ' = srl σ [(r_Nought0_series, f_Nought0_series)] ∧ (((0 ≤ d ∧ d ≤ D) ∧ ∃ s, sers ((σ r_Nought0_sizes)) s d ∧ rr = s d) ∨ (¬ (0 ≤ d ∧ d ≤ D) ∧ rr = 0))) := by
        intro N
        induction N with
        | zero => intro i S2; intros; omega
        | succ N ih_36 =>
          intro i S2 hkd hi hS2 hN_36
          refine wp_run 2 (pc' := 38) (ls' := [some (.inr (.inr (r_Nought0, 0))), some (.inl d), some (.inl k), some (.inl i)]) (st' := [.inl k, .inl i]) (σ' := srl σ [(r_Nought0_series, S2)]) rfl ?_
          refine wp_ic_gt rfl (by omega) (by omega) (fun h_1 => ?_) (fun h_1 => ?_)
          · show en_wp k_X3_inverseOf 71 [some (.inr (.inr (r_Nought0, 0))), some (.inl d), some (.inl k), some (.inl i)] [] (srl σ [(r_Nought0_series, S2)]) _
            refine wp_run 2 (pc' := 22) (ls' := [some (.inr (.inr (r_Nought0, 0))), some (.inl d), some (.inl (k + 1)), some (.inl i)]) (st' := []) (σ' := srl σ [(r_Nought0_series, S2)]) rfl ?_
            refine wp_sub (l := [some (.inr (.inr (r_Nought0, 0))), some (.inl d), some (.inl (k + 1)), none]) (And.intro rfl (And.intro rfl (And.intro rfl trivial))) ?_
            exact ih_22 (k + 1) S2 (by omega) (by omega) (sers_step hk.1 hS (by rw [hS2.1, show i - 1 = k by omega]) hS2.2) (by omega)
          · show en_wp k_X3_inverseOf 41 [some (.inr (.inr (r_Nought0, 0))), some (.inl d), some (.inl k), some (.inl i)] [] (srl σ [(r_Nought0_series, S2)]) _
            refine wp_run 4 (pc' := 47) (ls' := [some (.inr (.inr (r_Nought0, 0))), some (.inl d), some (.inl k), some (.inl i)]) (st' := [.inl k, .inr (.inr (r_Nought0_series, 0)), .inl k, .inr (.inr (r_Nought0_series, 0))]) (σ' := srl σ [(r_Nought0_series, S2)]) rfl ?_
            refine wp_lald0 rfl rfl (by omega) ?_
            show en_wp k_X3_inverseOf 48 [some (.inr (.inr (r_Nought0, 0))), some (.inl d), some (.inl k), some (.inl i)] [.inr (.inl (S2 k)), .inl k, .inr (.inr (r_Nought0_series, 0))] (srl σ [(r_Nought0_series, S2)]) _
            refine wp_run 2 (pc' := 50) (ls' := [some (.inr (.inr (r_Nought0, 0))), some (.inl d), some (.inl k), some (.inl i)]) (st' := [.inl i, .inr (.inr (r_Nought0, 0)), .inr (.inl (S2 k)), .inl k, .inr (.inr (r_Nought0_series, 0))]) (σ' := srl σ [(r_Nought0_series, S2)]) rfl ?_
            refine wp_fnv (v := .inl (if 0 ≤ i ∧ i ≤ D then (σ r_Nought0_sizes) i else 0)) rfl rfl rfl rfl (ct_X3_sizeOf_Nought0 (srl σ [(r_Nought0_series, S2)]) n D p i hI (by omega)) ?_
            show en_wp k_X3_inverseOf 53 [some (.inr (.inr (r_Nought0, 0))), some (.inl d), some (.inl k), some (.inl i)] [.inl (if 0 ≤ i ∧ i ≤ D then (σ r_Nought0_sizes) i else 0), .inr (.inl (S2 k)), .inl k, .inr (.inr (r_Nought0_series, 0))] (srl σ [(r_Nought0_series, S2)]) _
            rw [if_pos (show 0 ≤ i ∧ i ≤ D by omega)]
            show en_wp k_X3_inverseOf 53 [some (.inr (.inr (r_Nought0, 0))), some (.inl d), some (.inl k), some (.inl i)] [.inl (σ r_Nought0_sizes i), .inr (.inl (S2 k)), .inl k, .inr (.inr (r_Nought0_series, 0))] (srl σ [(r_Nought0_series, S2)]) _
            have hz := hsz i (by omega) (by omega) (by omega)
            refine wp_i2l rfl (by omega) ?_
            show en_wp k_X3_inverseOf 54 [some (.inr (.inr (r_Nought0, 0))), some (.inl d), some (.inl k), some (.inl i)] [.inr (.inl (σ r_Nought0_sizes i)), .inr (.inl (S2 k)), .inl k, .inr (.inr (r_Nought0_series, 0))] (srl σ [(r_Nought0_series, S2)]) _
            refine wp_run 5 (pc' := 61) (ls' := [some (.inr (.inr (r_Nought0, 0))), some (.inl d), some (.inl k), some (.inl i)]) (st' := [.inl (k - i), .inr (.inr (r_Nought0_series, 0)), .inr (.inl (σ r_Nought0_sizes i)), .inr (.inl (S2 k)), .inl k, .inr (.inr (r_Nought0_series, 0))]) (σ' := srl σ [(r_Nought0_series, S2)]) rfl ?_
            refine wp_lald0 rfl rfl (by omega) ?_
            show en_wp k_X3_inverseOf 62 [some (.inr (.inr (r_Nought0, 0))), some (.inl d), some (.inl k), some (.inl i)] [.inr (.inl (S2 (k - i))), .inr (.inl (σ r_Nought0_sizes i)), .inr (.inl (S2 k)), .inl k, .inr (.inr (r_Nought0_series, 0))] (srl σ [(r_Nought0_series, S2)]) _
            refine wp_run 2 (pc' := 64) (ls' := [some (.inr (.inr (r_Nought0, 0))), some (.inl d), some (.inl k), some (.inl i)]) (st' := [.inr (.inl ((S2 k) - ((σ r_Nought0_sizes i) * (S2 (k - i))))), .inl k, .inr (.inr (r_Nought0_series, 0))]) (σ' := srl σ [(r_Nought0_series, S2)]) rfl ?_
            refine wp_last0 rfl rfl (by omega) (wp_wr (l2 := [(r_Nought0_series, (up S2 k ((S2 k) - ((σ r_Nought0_sizes i) * (S2 (k - i))))))]) rfl ?_)
            show en_wp k_X3_inverseOf 65 [some (.inr (.inr (r_Nought0, 0))), some (.inl d), some (.inl k), some (.inl i)] [] (srl σ [(r_Nought0_series, (up S2 k ((S2 k) - ((σ r_Nought0_sizes i) * (S2 (k - i))))))]) _
            refine wp_run 2 (pc' := 36) (ls' := [some (.inr (.inr (r_Nought0, 0))), some (.inl d), some (.inl k), some (.inl (i + 1))]) (st' := []) (σ' := srl σ [(r_Nought0_series, (up S2 k ((S2 k) - ((σ r_Nought0_sizes i) * (S2 (k - i))))))]) rfl ?_
            exact ih_36 (i + 1) (up S2 k ((S2 k) - ((σ r_Nought0_sizes i) * (S2 (k - i))))) (by omega) (by omega) ⟨by rw [up_eq, hS2.1, hS2.2 (k - i) (by omega), show i + 1 - 1 = i by omega, show i.toNat = (i - 1).toNat + 1 by omega]; show _ = -(sm _ (i - 1).toNat + σ r_Nought0_sizes ((((i - 1).toNat : Nat) : Int) + 1) * SE (k - ((((i - 1).toNat : Nat) : Int) + 1))); rw [show (((i - 1).toNat : Nat) : Int) + 1 = i by omega]; omega, fun j h => by rw [up_ne h]; exact hS2.2 j h⟩ (by omega)
      refine wp_run 2 (pc' := 24) (ls' := [some (.inr (.inr (r_Nought0, 0))), some (.inl d), some (.inl k), none]) (st' := [.inl d, .inl k]) (σ' := srl σ [(r_Nought0_series, SE)]) rfl ?_
      refine wp_ic_gt rfl (by omega) (by omega) (fun h_2 => ?_) (fun h_2 => ?_)
      · show en_wp k_X3_inverseOf 77 [some (.inr (.inr (r_Nought0, 0))), some (.inl d), some (.inl k), none] [] (srl σ [(r_Nought0_series, SE)]) _
        refine wp_run 3 (pc' := 82) (ls' := [some (.inr (.inr (r_Nought0, 0))), some (.inl d), some (.inl k), none]) (st' := [.inl d, .inr (.inr (r_Nought0_series, 0))]) (σ' := srl σ [(r_Nought0_series, SE)]) rfl ?_
        refine wp_lald0 rfl rfl (by omega) ?_
        show en_wp k_X3_inverseOf 83 [some (.inr (.inr (r_Nought0, 0))), some (.inl d), some (.inl k), none] [.inr (.inl (SE d))] (srl σ [(r_Nought0_series, SE)]) _
        exact wp_lret rfl ⟨SE, (SE d), rfl, srl_eq (l' := [(r_Nought0_series, SE)]) (And.intro rfl trivial) (And.intro rfl trivial), (.inl ⟨hd, SE, ⟨hS.1, fun j h8 h9 => hS.2 j h8 (by omega)⟩, rfl⟩)⟩
      · show en_wp k_X3_inverseOf 27 [some (.inr (.inr (r_Nought0, 0))), some (.inl d), some (.inl k), none] [] (srl σ [(r_Nought0_series, SE)]) _
        refine wp_run 4 (pc' := 33) (ls' := [some (.inr (.inr (r_Nought0, 0))), some (.inl d), some (.inl k), none]) (st' := [.inr (.inl 0), .inl k, .inr (.inr (r_Nought0_series, 0))]) (σ' := srl σ [(r_Nought0_series, SE)]) rfl ?_
        refine wp_last0 rfl rfl (by omega) (wp_wr (l2 := [(r_Nought0_series, (up SE k 0))]) rfl ?_)
        show en_wp k_X3_inverseOf 34 [some (.inr (.inr (r_Nought0, 0))), some (.inl d), some (.inl k), none] [] (srl σ [(r_Nought0_series, (up SE k 0))]) _
        refine wp_run 2 (pc' := 36) (ls' := [some (.inr (.inr (r_Nought0, 0))), some (.inl d), some (.inl k), some (.inl 1)]) (st' := []) (σ' := srl σ [(r_Nought0_series, (up SE k 0))]) rfl ?_
        exact L_36 _ 1 (up SE k 0) (by omega) (by omega) ⟨by rw [up_eq]; rfl, fun j h => up_ne h⟩ (Nat.lt_succ_self _)
  refine wp_run 3 (pc' := 5) (ls' := [some (.inr (.inr (r_Nought0, 0))), some (.inl d), none, none]) (st' := [.inl d, .inr (.inr (r_Shape0, 0))]) (σ' := srl σ []) rfl ?_
  refine wp_fnv (v := .inl (bI (0 ≤ d ∧ d ≤ D))) rfl rfl rfl rfl (ct_X5_hasDegree_Shape0 σ n D p d hI (by omega)) ?_
  show en_wp k_X3_inverseOf 8 [some (.inr (.inr (r_Nought0, 0))), some (.inl d), none, none] [.inl (bI (0 ≤ d ∧ d ≤ D))] (srl σ []) _
  refine wp_if_neb rfl (fun h_3 => ?_) (fun h_3 => ?_)
  · show en_wp k_X3_inverseOf 13 [some (.inr (.inr (r_Nought0, 0))), some (.inl d), none, none] [] (srl σ []) _
    refine wp_run 4 (pc' := 19) (ls' := [some (.inr (.inr (r_Nought0, 0))), some (.inl d), none, none]) (st' := [.inr (.inl 1), .inl 0, .inr (.inr (r_Nought0_series, 0))]) (σ' := srl σ []) rfl ?_
    refine wp_last0 rfl rfl (by omega) (wp_wr (l2 := [(r_Nought0_series, (up (σ r_Nought0_series) 0 1))]) rfl ?_)
    show en_wp k_X3_inverseOf 20 [some (.inr (.inr (r_Nought0, 0))), some (.inl d), none, none] [] (srl σ [(r_Nought0_series, (up (σ r_Nought0_series) 0 1))]) _
    refine wp_run 2 (pc' := 22) (ls' := [some (.inr (.inr (r_Nought0, 0))), some (.inl d), some (.inl 1), none]) (st' := []) (σ' := srl σ [(r_Nought0_series, (up (σ r_Nought0_series) 0 1))]) rfl ?_
    exact L_22 _ 1 (up (σ r_Nought0_series) 0 1) (by omega) (by omega) ⟨up_eq _ _ _, fun j h8 h9 => by omega⟩ (Nat.lt_succ_self _)
  · show en_wp k_X3_inverseOf 11 [some (.inr (.inr (r_Nought0, 0))), some (.inl d), none, none] [] (srl σ []) _
    refine wp_run 1 (pc' := 12) (ls' := [some (.inr (.inr (r_Nought0, 0))), some (.inl d), none, none]) (st' := [.inr (.inl 0)]) (σ' := srl σ []) rfl ?_
    exact wp_lret rfl ⟨(σ r_Nought0_series), 0, rfl, srl_eq (l' := [(r_Nought0_series, σ r_Nought0_series)]) trivial (And.intro rfl trivial), (.inr ⟨by omega, rfl⟩)⟩
