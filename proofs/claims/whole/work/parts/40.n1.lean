/-! contracts of methods, walked (written by wip/whole/walk.py from the annotations ann_n1) -/
theorem ct_X5_startOf_Shape0_p (σ : en_m) (n : Int) (D : Int) (p : Int) (d : Int) (hI : cS0 σ n D p) (h1 : 0 ≤ d ∧ d ≤ 7) : en_fn z_X5_startOf [.inr (.inr (r_Shape0, 0)), .inl d] σ (.inl (sS n D d)) := by
  show en_wp k_X5_startOf 0 [some (.inr (.inr (r_Shape0, 0))), some (.inl d)] [] (srl σ []) (fun r σ' => r = some (.inl (sS n D d)) ∧ σ' = σ)
  have hI2 := hI
  obtain ⟨hO, hn, hD, hp, hm, hst, hln⟩ := hI2
  obtain ⟨⟨hO1, hO2⟩, ⟨hO3, hO4⟩, hO5, hO6, hO7, hO8⟩ := id hO
  refine wp_run 1 (pc' := 1) (ls' := [some (.inr (.inr (r_Shape0, 0))), some (.inl d)]) (st' := [.inl d]) (σ' := srl σ []) rfl ?_
  refine wp_if_lt rfl (by omega) (fun h_1 => ?_) (fun h_1 => ?_)
  · show en_wp k_X5_startOf 19 [some (.inr (.inr (r_Shape0, 0))), some (.inl d)] [] (srl σ []) _
    refine wp_run 1 (pc' := 20) (ls' := [some (.inr (.inr (r_Shape0, 0))), some (.inl d)]) (st' := [.inl 0]) (σ' := srl σ []) rfl ?_
    exact wp_iret rfl ⟨(by first | rw [hst d (by omega) (by omega)] | (exfalso; omega)), rfl⟩
  · show en_wp k_X5_startOf 4 [some (.inr (.inr (r_Shape0, 0))), some (.inl d)] [] (srl σ []) _
    refine wp_run 2 (pc' := 7) (ls' := [some (.inr (.inr (r_Shape0, 0))), some (.inl d)]) (st' := [.inl 7, .inl d]) (σ' := srl σ []) rfl ?_
    refine wp_ic_gt rfl (by omega) (by omega) (fun h_2 => ?_) (fun h_2 => ?_)
    · show en_wp k_X5_startOf 19 [some (.inr (.inr (r_Shape0, 0))), some (.inl d)] [] (srl σ []) _
      refine wp_run 1 (pc' := 20) (ls' := [some (.inr (.inr (r_Shape0, 0))), some (.inl d)]) (st' := [.inl 0]) (σ' := srl σ []) rfl ?_
      exact wp_iret rfl ⟨(by first | rw [hst d (by omega) (by omega)] | (exfalso; omega)), rfl⟩
    · show en_wp k_X5_startOf 10 [some (.inr (.inr (r_Shape0, 0))), some (.inl d)] [] (srl σ []) _
      refine wp_run 3 (pc' := 15) (ls' := [some (.inr (.inr (r_Shape0, 0))), some (.inl d)]) (st' := [.inl d, .inr (.inr (r_Shape0_start, 0))]) (σ' := srl σ []) rfl ?_
      refine wp_iald0 rfl rfl (by omega) ?_
      show en_wp k_X5_startOf 16 [some (.inr (.inr (r_Shape0, 0))), some (.inl d)] [.inl (σ r_Shape0_start d)] (srl σ []) _
      refine wp_run 1 (pc' := 20) (ls' := [some (.inr (.inr (r_Shape0, 0))), some (.inl d)]) (st' := [.inl (σ r_Shape0_start d)]) (σ' := srl σ []) rfl ?_
      exact wp_iret rfl ⟨(by first | rw [hst d (by omega) (by omega)] | (exfalso; omega)), rfl⟩
theorem ct_X5_tailOf_Shape0_p (σ : en_m) (n : Int) (D : Int) (p : Int) (x : Int) (d : Int) (hI : cS0 σ n D p) (h1 : 0 ≤ d ∧ d ≤ 7) (h2 : 0 ≤ x ∧ x ≤ 2147483647) (h3 : 0 < sW n D d) : en_fn z_X5_tailOf [.inr (.inr (r_Shape0, 0)), .inl x, .inl d] σ (.inl (x % sW n D d)) := by
  show en_wp k_X5_tailOf 0 [some (.inr (.inr (r_Shape0, 0))), some (.inl x), some (.inl d), none] [] (srl σ []) (fun r σ' => r = some (.inl (x % sW n D d)) ∧ σ' = σ)
  have hI2 := hI
  obtain ⟨hO, hn, hD, hp, hm, hst, hln⟩ := hI2
  obtain ⟨⟨hO1, hO2⟩, ⟨hO3, hO4⟩, hO5, hO6, hO7, hO8⟩ := id hO
  refine wp_run 2 (pc' := 2) (ls' := [some (.inr (.inr (r_Shape0, 0))), some (.inl x), some (.inl d), none]) (st' := [.inl d, .inr (.inr (r_Shape0, 0))]) (σ' := srl σ []) rfl ?_
  refine wp_fnv (v := .inl (sW n D d)) rfl rfl rfl rfl (ct_X5_wordsOf_Shape0 σ n D p d hI (by omega)) ?_
  show en_wp k_X5_tailOf 5 [some (.inr (.inr (r_Shape0, 0))), some (.inl x), some (.inl d), none] [.inl (sW n D d)] (srl σ []) _
  have q_1 : 0 ≤ sW n D d ∧ sW n D d ≤ 256 := sW_b hO
  refine wp_run 2 (pc' := 7) (ls' := [some (.inr (.inr (r_Shape0, 0))), some (.inl x), some (.inl d), some (.inl (sW n D d))]) (st' := [.inl (sW n D d)]) (σ' := srl σ []) rfl ?_
  refine wp_if_le rfl (by omega) (fun h_2 => ?_) (fun h_2 => ?_)
  · exfalso; omega
  · show en_wp k_X5_tailOf 10 [some (.inr (.inr (r_Shape0, 0))), some (.inl x), some (.inl d), some (.inl (sW n D d))] [] (srl σ []) _
    refine wp_run 2 (pc' := 12) (ls' := [some (.inr (.inr (r_Shape0, 0))), some (.inl x), some (.inl d), some (.inl (sW n D d))]) (st' := [.inl (sW n D d), .inl x]) (σ' := srl σ []) rfl ?_
    refine wp_iremp rfl (by omega) (by omega) ?_
    show en_wp k_X5_tailOf 13 [some (.inr (.inr (r_Shape0, 0))), some (.inl x), some (.inl d), some (.inl (sW n D d))] [.inl (x % (sW n D d))] (srl σ []) _
    refine wp_run 1 (pc' := 17) (ls' := [some (.inr (.inr (r_Shape0, 0))), some (.inl x), some (.inl d), some (.inl (sW n D d))]) (st' := [.inl (x % (sW n D d))]) (σ' := srl σ []) rfl ?_
    exact wp_iret rfl ⟨rfl, rfl⟩
theorem ct_X5_headOf_Shape0_p (σ : en_m) (n : Int) (D : Int) (p : Int) (x : Int) (d : Int) (hI : cS0 σ n D p) (h1 : 0 ≤ d ∧ d ≤ 7) (h2 : 0 ≤ x ∧ x ≤ 2147483647) (h3 : 0 < sW n D d) : en_fn z_X5_headOf [.inr (.inr (r_Shape0, 0)), .inl x, .inl d] σ (.inl (x / sW n D d)) := by
  show en_wp k_X5_headOf 0 [some (.inr (.inr (r_Shape0, 0))), some (.inl x), some (.inl d), none] [] (srl σ []) (fun r σ' => r = some (.inl (x / sW n D d)) ∧ σ' = σ)
  have hI2 := hI
  obtain ⟨hO, hn, hD, hp, hm, hst, hln⟩ := hI2
  obtain ⟨⟨hO1, hO2⟩, ⟨hO3, hO4⟩, hO5, hO6, hO7, hO8⟩ := id hO
  refine wp_run 2 (pc' := 2) (ls' := [some (.inr (.inr (r_Shape0, 0))), some (.inl x), some (.inl d), none]) (st' := [.inl d, .inr (.inr (r_Shape0, 0))]) (σ' := srl σ []) rfl ?_
  refine wp_fnv (v := .inl (sW n D d)) rfl rfl rfl rfl (ct_X5_wordsOf_Shape0 σ n D p d hI (by omega)) ?_
  show en_wp k_X5_headOf 5 [some (.inr (.inr (r_Shape0, 0))), some (.inl x), some (.inl d), none] [.inl (sW n D d)] (srl σ []) _
  have q_1 : 0 ≤ sW n D d ∧ sW n D d ≤ 256 := sW_b hO
  refine wp_run 2 (pc' := 7) (ls' := [some (.inr (.inr (r_Shape0, 0))), some (.inl x), some (.inl d), some (.inl (sW n D d))]) (st' := [.inl (sW n D d)]) (σ' := srl σ []) rfl ?_
  refine wp_if_le rfl (by omega) (fun h_2 => ?_) (fun h_2 => ?_)
  · exfalso; omega
  · show en_wp k_X5_headOf 10 [some (.inr (.inr (r_Shape0, 0))), some (.inl x), some (.inl d), some (.inl (sW n D d))] [] (srl σ []) _
    refine wp_run 2 (pc' := 12) (ls' := [some (.inr (.inr (r_Shape0, 0))), some (.inl x), some (.inl d), some (.inl (sW n D d))]) (st' := [.inl (sW n D d), .inl x]) (σ' := srl σ []) rfl ?_
    refine wp_idivp rfl (by omega) (by omega) ?_
    show en_wp k_X5_headOf 13 [some (.inr (.inr (r_Shape0, 0))), some (.inl x), some (.inl d), some (.inl (sW n D d))] [.inl (x / (sW n D d))] (srl σ []) _
    refine wp_run 1 (pc' := 17) (ls' := [some (.inr (.inr (r_Shape0, 0))), some (.inl x), some (.inl d), some (.inl (sW n D d))]) (st' := [.inl (x / (sW n D d))]) (σ' := srl σ []) rfl ?_
    exact wp_iret rfl ⟨rfl, rfl⟩
theorem ct_J7_fill_53178_Nought0_row (σ : en_m) (v : Int) : en_ct z_J7_fill_53178 [.inr (.inr (r_Nought0_row, 0)), .inl v] σ (fun r σ' => r = none ∧ σ' = srl σ [(r_Nought0_row, (seg (σ r_Nought0_row) 0 256 (fun _ => v)))]) := by
  show en_wp k_J7_fill_53178 0 [some (.inr (.inr (r_Nought0_row, 0))), some (.inl v), none, none] [] (srl σ []) (fun r σ' => r = none ∧ σ' = srl σ [(r_Nought0_row, (seg (σ r_Nought0_row) 0 256 (fun _ => v)))])
  have L_5 : ∀ (N : Nat) (k : Int) (X : Int → Int), (0 ≤ k ∧ k ≤ 256) → (X = seg (σ r_Nought0_row) 0 k (fun _ => v)) → (256 - k).toNat < N → en_wp k_J7_fill_53178 5 [some (.inr (.inr (r_Nought0_row, 0))), some (.inl v), some (.inl k), some (.inl 256)] [] (srl σ [(r_Nought0_row, X)]) (fun r σ' => r = none ∧ σ' = srl σ [(r_Nought0_row, (seg (σ r_Nought0_row) 0 256 (fun _ => v)))]) := by
    intro N
    induction N with
    | zero => intro k X; intros; omega
    | succ N ih_5 =>
      intro k X hk hX hN_5
      refine wp_run 2 (pc' := 7) (ls' := [some (.inr (.inr (r_Nought0_row, 0))), some (.inl v), some (.inl k), some (.inl 256)]) (st' := [.inl 256, .inl k]) (σ' := srl σ [(r_Nought0_row, X)]) rfl ?_
      refine wp_ic_ge rfl (by omega) (by omega) (fun h_1 => ?_) (fun h_1 => ?_)
      · show en_wp k_J7_fill_53178 20 [some (.inr (.inr (r_Nought0_row, 0))), some (.inl v), some (.inl k), some (.inl 256)] [] (srl σ [(r_Nought0_row, X)]) _
        exact wp_vret rfl ⟨rfl, (by rw [hX, show k = 256 by omega])⟩
      · show en_wp k_J7_fill_53178 10 [some (.inr (.inr (r_Nought0_row, 0))), some (.inl v), some (.inl k), some (.inl 256)] [] (srl σ [(r_Nought0_row, X)]) _
        refine wp_run 3 (pc' := 13) (ls' := [some (.inr (.inr (r_Nought0_row, 0))), some (.inl v), some (.inl k), some (.inl 256)]) (st' := [.inl v, .inl k, .inr (.inr (r_Nought0_row, 0))]) (σ' := srl σ [(r_Nought0_row, X)]) rfl ?_
        refine wp_iast0 rfl rfl (by omega) (wp_wr (l2 := [(r_Nought0_row, (up X k v))]) rfl ?_)
        show en_wp k_J7_fill_53178 14 [some (.inr (.inr (r_Nought0_row, 0))), some (.inl v), some (.inl k), some (.inl 256)] [] (srl σ [(r_Nought0_row, (up X k v))]) _
        refine wp_run 2 (pc' := 5) (ls' := [some (.inr (.inr (r_Nought0_row, 0))), some (.inl v), some (.inl (k + 1)), some (.inl 256)]) (st' := []) (σ' := srl σ [(r_Nought0_row, (up X k v))]) rfl ?_
        exact ih_5 (k + 1) (up X k v) (by omega) (by rw [hX]; exact seg_up0 hk.1 rfl) (by omega)
  refine wp_run 5 (pc' := 5) (ls' := [some (.inr (.inr (r_Nought0_row, 0))), some (.inl v), some (.inl 0), some (.inl 256)]) (st' := []) (σ' := srl σ []) rfl ?_
  refine wp_mem (srl_eq (l' := [(r_Nought0_row, (σ r_Nought0_row))]) trivial (And.intro rfl trivial)) ?_
  exact L_5 _ 0 (σ r_Nought0_row) (by omega) (seg_0 _ _ _).symm (Nat.lt_succ_self _)
theorem ct_J7_fill_53178_Nought0_reduced (σ : en_m) (v : Int) : en_ct z_J7_fill_53178 [.inr (.inr (r_Nought0_reduced, 0)), .inl v] σ (fun r σ' => r = none ∧ σ' = srl σ [(r_Nought0_reduced, (seg (σ r_Nought0_reduced) 0 256 (fun _ => v)))]) := by
  show en_wp k_J7_fill_53178 0 [some (.inr (.inr (r_Nought0_reduced, 0))), some (.inl v), none, none] [] (srl σ []) (fun r σ' => r = none ∧ σ' = srl σ [(r_Nought0_reduced, (seg (σ r_Nought0_reduced) 0 256 (fun _ => v)))])
  have L_5 : ∀ (N : Nat) (k : Int) (X : Int → Int), (0 ≤ k ∧ k ≤ 256) → (X = seg (σ r_Nought0_reduced) 0 k (fun _ => v)) → (256 - k).toNat < N → en_wp k_J7_fill_53178 5 [some (.inr (.inr (r_Nought0_reduced, 0))), some (.inl v), some (.inl k), some (.inl 256)] [] (srl σ [(r_Nought0_reduced, X)]) (fun r σ' => r = none ∧ σ' = srl σ [(r_Nought0_reduced, (seg (σ r_Nought0_reduced) 0 256 (fun _ => v)))]) := by
    intro N
    induction N with
    | zero => intro k X; intros; omega
    | succ N ih_5 =>
      intro k X hk hX hN_5
      refine wp_run 2 (pc' := 7) (ls' := [some (.inr (.inr (r_Nought0_reduced, 0))), some (.inl v), some (.inl k), some (.inl 256)]) (st' := [.inl 256, .inl k]) (σ' := srl σ [(r_Nought0_reduced, X)]) rfl ?_
      refine wp_ic_ge rfl (by omega) (by omega) (fun h_1 => ?_) (fun h_1 => ?_)
      · show en_wp k_J7_fill_53178 20 [some (.inr (.inr (r_Nought0_reduced, 0))), some (.inl v), some (.inl k), some (.inl 256)] [] (srl σ [(r_Nought0_reduced, X)]) _
        exact wp_vret rfl ⟨rfl, (by rw [hX, show k = 256 by omega])⟩
      · show en_wp k_J7_fill_53178 10 [some (.inr (.inr (r_Nought0_reduced, 0))), some (.inl v), some (.inl k), some (.inl 256)] [] (srl σ [(r_Nought0_reduced, X)]) _
        refine wp_run 3 (pc' := 13) (ls' := [some (.inr (.inr (r_Nought0_reduced, 0))), some (.inl v), some (.inl k), some (.inl 256)]) (st' := [.inl v, .inl k, .inr (.inr (r_Nought0_reduced, 0))]) (σ' := srl σ [(r_Nought0_reduced, X)]) rfl ?_
        refine wp_iast0 rfl rfl (by omega) (wp_wr (l2 := [(r_Nought0_reduced, (up X k v))]) rfl ?_)
        show en_wp k_J7_fill_53178 14 [some (.inr (.inr (r_Nought0_reduced, 0))), some (.inl v), some (.inl k), some (.inl 256)] [] (srl σ [(r_Nought0_reduced, (up X k v))]) _
        refine wp_run 2 (pc' := 5) (ls' := [some (.inr (.inr (r_Nought0_reduced, 0))), some (.inl v), some (.inl (k + 1)), some (.inl 256)]) (st' := []) (σ' := srl σ [(r_Nought0_reduced, (up X k v))]) rfl ?_
        exact ih_5 (k + 1) (up X k v) (by omega) (by rw [hX]; exact seg_up0 hk.1 rfl) (by omega)
  refine wp_run 5 (pc' := 5) (ls' := [some (.inr (.inr (r_Nought0_reduced, 0))), some (.inl v), some (.inl 0), some (.inl 256)]) (st' := []) (σ' := srl σ []) rfl ?_
  refine wp_mem (srl_eq (l' := [(r_Nought0_reduced, (σ r_Nought0_reduced))]) trivial (And.intro rfl trivial)) ?_
  exact L_5 _ 0 (σ r_Nought0_reduced) (by omega) (seg_0 _ _ _).symm (Nat.lt_succ_self _)
theorem ct_X3_hasWord_Nought0 (σ : en_m) (n : Int) (D : Int) (p : Int) (d : Int) (w : Int) (hI : cS0 σ n D p) (h1 : i32 d) (h2 : i32 w) : en_fn z_X3_hasWord [.inr (.inr (r_Nought0, 0)), .inl d, .inl w] σ (.inl (bI (0 ≤ w ∧ w < sW n D d))) := by
  show en_wp k_X3_hasWord 0 [some (.inr (.inr (r_Nought0, 0))), some (.inl d), some (.inl w)] [] (srl σ []) (fun r σ' => r = some (.inl (bI (0 ≤ w ∧ w < sW n D d))) ∧ σ' = σ)
  have hI2 := hI
  obtain ⟨hO, hn, hD, hp, hm, hst, hln⟩ := hI2
  obtain ⟨⟨hO1, hO2⟩, ⟨hO3, hO4⟩, hO5, hO6, hO7, hO8⟩ := id hO
  refine wp_run 1 (pc' := 1) (ls' := [some (.inr (.inr (r_Nought0, 0))), some (.inl d), some (.inl w)]) (st' := [.inl w]) (σ' := srl σ []) rfl ?_
  refine wp_if_lt rfl (by omega) (fun h_1 => ?_) (fun h_1 => ?_)
  · show en_wp k_X3_hasWord 20 [some (.inr (.inr (r_Nought0, 0))), some (.inl d), some (.inl w)] [] (srl σ []) _
    refine wp_run 1 (pc' := 21) (ls' := [some (.inr (.inr (r_Nought0, 0))), some (.inl d), some (.inl w)]) (st' := [.inl 0]) (σ' := srl σ []) rfl ?_
    exact wp_zret rfl (.inl rfl) ⟨(by first | rw [bI_t (by omega)] | rw [bI_f (by omega)]), rfl⟩
  · show en_wp k_X3_hasWord 4 [some (.inr (.inr (r_Nought0, 0))), some (.inl d), some (.inl w)] [] (srl σ []) _
    refine wp_run 4 (pc' := 10) (ls' := [some (.inr (.inr (r_Nought0, 0))), some (.inl d), some (.inl w)]) (st' := [.inl d, .inr (.inr (r_Shape0, 0)), .inl w]) (σ' := srl σ []) rfl ?_
    refine wp_fnv (v := .inl (sW n D d)) rfl rfl rfl rfl (ct_X5_wordsOf_Shape0 σ n D p d hI (by omega)) ?_
    show en_wp k_X3_hasWord 13 [some (.inr (.inr (r_Nought0, 0))), some (.inl d), some (.inl w)] [.inl (sW n D d), .inl w] (srl σ []) _
    have q_2 : 0 ≤ sW n D d ∧ sW n D d ≤ 256 := sW_b hO
    refine wp_ic_ge rfl (by omega) (by omega) (fun h_3 => ?_) (fun h_3 => ?_)
    · show en_wp k_X3_hasWord 20 [some (.inr (.inr (r_Nought0, 0))), some (.inl d), some (.inl w)] [] (srl σ []) _
      refine wp_run 1 (pc' := 21) (ls' := [some (.inr (.inr (r_Nought0, 0))), some (.inl d), some (.inl w)]) (st' := [.inl 0]) (σ' := srl σ []) rfl ?_
      exact wp_zret rfl (.inl rfl) ⟨(by first | rw [bI_t (by omega)] | rw [bI_f (by omega)]), rfl⟩
    · show en_wp k_X3_hasWord 16 [some (.inr (.inr (r_Nought0, 0))), some (.inl d), some (.inl w)] [] (srl σ []) _
      refine wp_run 2 (pc' := 21) (ls' := [some (.inr (.inr (r_Nought0, 0))), some (.inl d), some (.inl w)]) (st' := [.inl 1]) (σ' := srl σ []) rfl ?_
      exact wp_zret rfl (.inr rfl) ⟨(by first | rw [bI_t (by omega)] | rw [bI_f (by omega)]), rfl⟩
theorem ct_X3_leads_Nought0 (σ : en_m) (n : Int) (D : Int) (p : Int) (d : Int) (w : Int) (hI : cS0 σ n D p) (gd : 0 ≤ d ∧ d ≤ D) (gw : 0 ≤ w ∧ w < sW n D d) (g01 : R01 ((σ r_Nought0_leading))) : en_fn z_X3_leads [.inr (.inr (r_Nought0, 0)), .inl d, .inl w] σ (.inl (bI (¬ (σ r_Nought0_leading) (sS n D d + w) = 0))) := by
  show en_wp k_X3_leads 0 [some (.inr (.inr (r_Nought0, 0))), some (.inl d), some (.inl w), none] [] (srl σ []) (fun r σ' => r = some (.inl (bI (¬ (σ r_Nought0_leading) (sS n D d + w) = 0))) ∧ σ' = σ)
  have hI2 := hI
  obtain ⟨hO, hn, hD, hp, hm, hst, hln⟩ := hI2
  obtain ⟨⟨hO1, hO2⟩, ⟨hO3, hO4⟩, hO5, hO6, hO7, hO8⟩ := id hO
  refine wp_run 3 (pc' := 5) (ls' := [some (.inr (.inr (r_Nought0, 0))), some (.inl d), some (.inl w), none]) (st' := [.inl d, .inr (.inr (r_Shape0, 0))]) (σ' := srl σ []) rfl ?_
  refine wp_fnv (v := .inl (sS n D d)) rfl rfl rfl rfl (ct_X5_startOf_Shape0_p σ n D p d hI (by omega)) ?_
  show en_wp k_X3_leads 8 [some (.inr (.inr (r_Nought0, 0))), some (.inl d), some (.inl w), none] [.inl (sS n D d)] (srl σ []) _
  have q_1 : 0 ≤ sS n D d ∧ sS n D d ≤ 364 := sS_b hO
  refine wp_run 4 (pc' := 12) (ls' := [some (.inr (.inr (r_Nought0, 0))), some (.inl d), some (.inl w), some (.inl ((sS n D d) + w))]) (st' := [.inl ((sS n D d) + w)]) (σ' := srl σ []) rfl ?_
  have hq := sS_word hO gd.1 gw
  have h01 := g01 (sS n D d + w)
  refine wp_if_lt rfl (by omega) (fun h_2 => ?_) (fun h_2 => ?_)
  · exfalso; omega
  · show en_wp k_X3_leads 15 [some (.inr (.inr (r_Nought0, 0))), some (.inl d), some (.inl w), some (.inl ((sS n D d) + w))] [] (srl σ []) _
    refine wp_run 2 (pc' := 19) (ls' := [some (.inr (.inr (r_Nought0, 0))), some (.inl d), some (.inl w), some (.inl ((sS n D d) + w))]) (st' := [.inl 364, .inl ((sS n D d) + w)]) (σ' := srl σ []) rfl ?_
    refine wp_ic_ge rfl (by omega) (by omega) (fun h_3 => ?_) (fun h_3 => ?_)
    · exfalso; omega
    · show en_wp k_X3_leads 22 [some (.inr (.inr (r_Nought0, 0))), some (.inl d), some (.inl w), some (.inl ((sS n D d) + w))] [] (srl σ []) _
      refine wp_run 3 (pc' := 27) (ls' := [some (.inr (.inr (r_Nought0, 0))), some (.inl d), some (.inl w), some (.inl ((sS n D d) + w))]) (st' := [.inl ((sS n D d) + w), .inr (.inr (r_Nought0_leading, 0))]) (σ' := srl σ []) rfl ?_
      refine wp_bald0 rfl (.inl rfl) (by omega) ?_
      show en_wp k_X3_leads 28 [some (.inr (.inr (r_Nought0, 0))), some (.inl d), some (.inl w), some (.inl ((sS n D d) + w))] [.inl (σ r_Nought0_leading ((sS n D d) + w))] (srl σ []) _
      refine wp_if_eq rfl (by omega) (fun h_4 => ?_) (fun h_4 => ?_)
      · show en_wp k_X3_leads 35 [some (.inr (.inr (r_Nought0, 0))), some (.inl d), some (.inl w), some (.inl ((sS n D d) + w))] [] (srl σ []) _
        refine wp_run 1 (pc' := 36) (ls' := [some (.inr (.inr (r_Nought0, 0))), some (.inl d), some (.inl w), some (.inl ((sS n D d) + w))]) (st' := [.inl 0]) (σ' := srl σ []) rfl ?_
        exact wp_zret rfl (.inl rfl) ⟨(by first | rw [bI_t (by omega)] | rw [bI_f (by omega)]), rfl⟩
      · show en_wp k_X3_leads 31 [some (.inr (.inr (r_Nought0, 0))), some (.inl d), some (.inl w), some (.inl ((sS n D d) + w))] [] (srl σ []) _
        refine wp_run 2 (pc' := 36) (ls' := [some (.inr (.inr (r_Nought0, 0))), some (.inl d), some (.inl w), some (.inl ((sS n D d) + w))]) (st' := [.inl 1]) (σ' := srl σ []) rfl ?_
        exact wp_zret rfl (.inr rfl) ⟨(by first | rw [bI_t (by omega)] | rw [bI_f (by omega)]), rfl⟩
theorem ct_X3_leadsAnew_Nought0 (σ : en_m) (n : Int) (D : Int) (p : Int) (d : Int) (w : Int) (hI : cS0 σ n D p) (gd : 0 ≤ d ∧ d ≤ D) (gw : 0 ≤ w ∧ w < sW n D d) (g01 : R01 ((σ r_Nought0_leading))) : en_fn z_X3_leadsAnew [.inr (.inr (r_Nought0, 0)), .inl d, .inl w] σ (.inl (bI (1 ≤ d ∧ ¬ (σ r_Nought0_leading) (sS n D d + w) = 0 ∧ (σ r_Nought0_leading) (sS n D (d - 1) + w % sW n D (d - 1)) = 0))) := by
  show en_wp k_X3_leadsAnew 0 [some (.inr (.inr (r_Nought0, 0))), some (.inl d), some (.inl w)] [] (srl σ []) (fun r σ' => r = some (.inl (bI (1 ≤ d ∧ ¬ (σ r_Nought0_leading) (sS n D d + w) = 0 ∧ (σ r_Nought0_leading) (sS n D (d - 1) + w % sW n D (d - 1)) = 0))) ∧ σ' = σ)
  have hI2 := hI
  obtain ⟨hO, hn, hD, hp, hm, hst, hln⟩ := hI2
  obtain ⟨⟨hO1, hO2⟩, ⟨hO3, hO4⟩, hO5, hO6, hO7, hO8⟩ := id hO
  have hq1 : 1 ≤ d → 0 < sW n D (d - 1) := fun _ => sW_p hO (by omega) (show d - 1 ≤ d by omega) gw
  have hwb := sW_b (k := d) hO
  refine wp_run 1 (pc' := 1) (ls' := [some (.inr (.inr (r_Nought0, 0))), some (.inl d), some (.inl w)]) (st' := [.inl d]) (σ' := srl σ []) rfl ?_
  refine wp_if_le rfl (by omega) (fun h_1 => ?_) (fun h_1 => ?_)
  · show en_wp k_X3_leadsAnew 38 [some (.inr (.inr (r_Nought0, 0))), some (.inl d), some (.inl w)] [] (srl σ []) _
    refine wp_run 1 (pc' := 39) (ls' := [some (.inr (.inr (r_Nought0, 0))), some (.inl d), some (.inl w)]) (st' := [.inl 0]) (σ' := srl σ []) rfl ?_
    exact wp_zret rfl (.inl rfl) ⟨(by first | rw [bI_t (by omega)] | rw [bI_f (by omega)]), rfl⟩
  · show en_wp k_X3_leadsAnew 4 [some (.inr (.inr (r_Nought0, 0))), some (.inl d), some (.inl w)] [] (srl σ []) _
    refine wp_run 3 (pc' := 7) (ls' := [some (.inr (.inr (r_Nought0, 0))), some (.inl d), some (.inl w)]) (st' := [.inl w, .inl d, .inr (.inr (r_Nought0, 0))]) (σ' := srl σ []) rfl ?_
    refine wp_fnv (v := .inl (bI (¬ (σ r_Nought0_leading) (sS n D d + w) = 0))) rfl rfl rfl rfl (ct_X3_leads_Nought0 σ n D p d w hI (by omega) (by omega) g01) ?_
    show en_wp k_X3_leadsAnew 10 [some (.inr (.inr (r_Nought0, 0))), some (.inl d), some (.inl w)] [.inl (bI (¬ (σ r_Nought0_leading) (sS n D d + w) = 0))] (srl σ []) _
    refine wp_if_eqb rfl (fun h_2 => ?_) (fun h_2 => ?_)
    · show en_wp k_X3_leadsAnew 38 [some (.inr (.inr (r_Nought0, 0))), some (.inl d), some (.inl w)] [] (srl σ []) _
      refine wp_run 1 (pc' := 39) (ls' := [some (.inr (.inr (r_Nought0, 0))), some (.inl d), some (.inl w)]) (st' := [.inl 0]) (σ' := srl σ []) rfl ?_
      exact wp_zret rfl (.inl rfl) ⟨(by first | rw [bI_t (by omega)] | rw [bI_f (by omega)]), rfl⟩
    · show en_wp k_X3_leadsAnew 13 [some (.inr (.inr (r_Nought0, 0))), some (.inl d), some (.inl w)] [] (srl σ []) _
      refine wp_run 10 (pc' := 25) (ls' := [some (.inr (.inr (r_Nought0, 0))), some (.inl d), some (.inl w)]) (st' := [.inl (d - 1), .inl w, .inr (.inr (r_Shape0, 0)), .inl (d - 1), .inr (.inr (r_Nought0, 0))]) (σ' := srl σ []) rfl ?_
      refine wp_fnv (v := .inl (w % sW n D (d - 1))) rfl rfl rfl rfl (ct_X5_tailOf_Shape0_p σ n D p w (d - 1) hI (by omega) (by omega) (by omega)) ?_
      show en_wp k_X3_leadsAnew 28 [some (.inr (.inr (r_Nought0, 0))), some (.inl d), some (.inl w)] [.inl (w % sW n D (d - 1)), .inl (d - 1), .inr (.inr (r_Nought0, 0))] (srl σ []) _
      have q_3 : 0 ≤ w % sW n D (d - 1) ∧ w % sW n D (d - 1) < sW n D (d - 1) := ⟨Int.emod_nonneg _ (by omega), Int.emod_lt_of_pos _ (by omega)⟩
      refine wp_fnv (v := .inl (bI (¬ (σ r_Nought0_leading) (sS n D (d - 1) + (w % sW n D (d - 1))) = 0))) rfl rfl rfl rfl (ct_X3_leads_Nought0 σ n D p (d - 1) (w % sW n D (d - 1)) hI (by omega) (by omega) g01) ?_
      show en_wp k_X3_leadsAnew 31 [some (.inr (.inr (r_Nought0, 0))), some (.inl d), some (.inl w)] [.inl (bI (¬ (σ r_Nought0_leading) (sS n D (d - 1) + (w % sW n D (d - 1))) = 0))] (srl σ []) _
      refine wp_if_neb rfl (fun h_4 => ?_) (fun h_4 => ?_)
      · show en_wp k_X3_leadsAnew 38 [some (.inr (.inr (r_Nought0, 0))), some (.inl d), some (.inl w)] [] (srl σ []) _
        refine wp_run 1 (pc' := 39) (ls' := [some (.inr (.inr (r_Nought0, 0))), some (.inl d), some (.inl w)]) (st' := [.inl 0]) (σ' := srl σ []) rfl ?_
        exact wp_zret rfl (.inl rfl) ⟨(by first | rw [bI_t (by omega)] | rw [bI_f (by omega)]), rfl⟩
      · show en_wp k_X3_leadsAnew 34 [some (.inr (.inr (r_Nought0, 0))), some (.inl d), some (.inl w)] [] (srl σ []) _
        refine wp_run 2 (pc' := 39) (ls' := [some (.inr (.inr (r_Nought0, 0))), some (.inl d), some (.inl w)]) (st' := [.inl 1]) (σ' := srl σ []) rfl ?_
        exact wp_zret rfl (.inr rfl) ⟨(by first | rw [bI_t (by omega)] | rw [bI_f (by omega)]), rfl⟩
theorem ct_X3_isLeading_Nought0 (σ : en_m) (n : Int) (D : Int) (p : Int) (d : Int) (w : Int) (hI : cS0 σ n D p) (h1 : 0 ≤ d ∧ d ≤ 8) (h2 : i32 w) (g01 : R01 ((σ r_Nought0_leading))) : en_fn z_X3_isLeading [.inr (.inr (r_Nought0, 0)), .inl d, .inl w] σ (.inl (bI ((0 ≤ w ∧ w < sW n D d) ∧ ¬ (σ r_Nought0_leading) (sS n D d + w) = 0))) := by
  show en_wp k_X3_isLeading 0 [some (.inr (.inr (r_Nought0, 0))), some (.inl d), some (.inl w)] [] (srl σ []) (fun r σ' => r = some (.inl (bI ((0 ≤ w ∧ w < sW n D d) ∧ ¬ (σ r_Nought0_leading) (sS n D d + w) = 0))) ∧ σ' = σ)
  have hI2 := hI
  obtain ⟨hO, hn, hD, hp, hm, hst, hln⟩ := hI2
  obtain ⟨⟨hO1, hO2⟩, ⟨hO3, hO4⟩, hO5, hO6, hO7, hO8⟩ := id hO
  refine wp_run 3 (pc' := 3) (ls' := [some (.inr (.inr (r_Nought0, 0))), some (.inl d), some (.inl w)]) (st' := [.inl w, .inl d, .inr (.inr (r_Nought0, 0))]) (σ' := srl σ []) rfl ?_
  refine wp_fnv (v := .inl (bI (0 ≤ w ∧ w < sW n D d))) rfl rfl rfl rfl (ct_X3_hasWord_Nought0 σ n D p d w hI (by omega) (by omega)) ?_
  show en_wp k_X3_isLeading 6 [some (.inr (.inr (r_Nought0, 0))), some (.inl d), some (.inl w)] [.inl (bI (0 ≤ w ∧ w < sW n D d))] (srl σ []) _
  refine wp_if_eqb rfl (fun h_1 => ?_) (fun h_1 => ?_)
  · show en_wp k_X3_isLeading 22 [some (.inr (.inr (r_Nought0, 0))), some (.inl d), some (.inl w)] [] (srl σ []) _
    refine wp_run 1 (pc' := 23) (ls' := [some (.inr (.inr (r_Nought0, 0))), some (.inl d), some (.inl w)]) (st' := [.inl 0]) (σ' := srl σ []) rfl ?_
    exact wp_zret rfl (.inl rfl) ⟨(by first | rw [bI_t (by omega)] | rw [bI_f (by omega)]), rfl⟩
  · show en_wp k_X3_isLeading 9 [some (.inr (.inr (r_Nought0, 0))), some (.inl d), some (.inl w)] [] (srl σ []) _
    refine wp_run 3 (pc' := 12) (ls' := [some (.inr (.inr (r_Nought0, 0))), some (.inl d), some (.inl w)]) (st' := [.inl w, .inl d, .inr (.inr (r_Nought0, 0))]) (σ' := srl σ []) rfl ?_
    have hdD : d ≤ D := by
      rcases Int.lt_or_le D d with h9 | h9
      · have h8 := @sW_big n D d h9
        omega
      · exact h9
    refine wp_fnv (v := .inl (bI (¬ (σ r_Nought0_leading) (sS n D d + w) = 0))) rfl rfl rfl rfl (ct_X3_leads_Nought0 σ n D p d w hI (by omega) (by omega) g01) ?_
    show en_wp k_X3_isLeading 15 [some (.inr (.inr (r_Nought0, 0))), some (.inl d), some (.inl w)] [.inl (bI (¬ (σ r_Nought0_leading) (sS n D d + w) = 0))] (srl σ []) _
    refine wp_if_eqb rfl (fun h_2 => ?_) (fun h_2 => ?_)
    · show en_wp k_X3_isLeading 22 [some (.inr (.inr (r_Nought0, 0))), some (.inl d), some (.inl w)] [] (srl σ []) _
      refine wp_run 1 (pc' := 23) (ls' := [some (.inr (.inr (r_Nought0, 0))), some (.inl d), some (.inl w)]) (st' := [.inl 0]) (σ' := srl σ []) rfl ?_
      exact wp_zret rfl (.inl rfl) ⟨(by first | rw [bI_t (by omega)] | rw [bI_f (by omega)]), rfl⟩
    · show en_wp k_X3_isLeading 18 [some (.inr (.inr (r_Nought0, 0))), some (.inl d), some (.inl w)] [] (srl σ []) _
      refine wp_run 2 (pc' := 23) (ls' := [some (.inr (.inr (r_Nought0, 0))), some (.inl d), some (.inl w)]) (st' := [.inl 1]) (σ' := srl σ []) rfl ?_
      exact wp_zret rfl (.inr rfl) ⟨(by first | rw [bI_t (by omega)] | rw [bI_f (by omega)]), rfl⟩
theorem ct_X3_isBasic_Nought0 (σ : en_m) (n : Int) (D : Int) (p : Int) (d : Int) (w : Int) (hI : cS0 σ n D p) (h1 : 0 ≤ d ∧ d ≤ 8) (h2 : i32 w) (g01 : R01 ((σ r_Nought0_leading))) : en_fn z_X3_isBasic [.inr (.inr (r_Nought0, 0)), .inl d, .inl w] σ (.inl (bI ((0 ≤ w ∧ w < sW n D d) ∧ 1 ≤ d ∧ ¬ (σ r_Nought0_leading) (sS n D d + w) = 0 ∧ (σ r_Nought0_leading) (sS n D (d - 1) + w % sW n D (d - 1)) = 0 ∧ (σ r_Nought0_leading) (sS n D (d - 1) + w / sW n D 1) = 0))) := by
  show en_wp k_X3_isBasic 0 [some (.inr (.inr (r_Nought0, 0))), some (.inl d), some (.inl w)] [] (srl σ []) (fun r σ' => r = some (.inl (bI ((0 ≤ w ∧ w < sW n D d) ∧ 1 ≤ d ∧ ¬ (σ r_Nought0_leading) (sS n D d + w) = 0 ∧ (σ r_Nought0_leading) (sS n D (d - 1) + w % sW n D (d - 1)) = 0 ∧ (σ r_Nought0_leading) (sS n D (d - 1) + w / sW n D 1) = 0))) ∧ σ' = σ)
  have hI2 := hI
  obtain ⟨hO, hn, hD, hp, hm, hst, hln⟩ := hI2
  obtain ⟨⟨hO1, hO2⟩, ⟨hO3, hO4⟩, hO5, hO6, hO7, hO8⟩ := id hO
  have hdD : 0 ≤ w ∧ w < sW n D d → d ≤ D := fun _ => by
    rcases Int.lt_or_le D d with h9 | h9
    · have h8 := @sW_big n D d h9
      omega
    · exact h9
  have hq1 : (0 ≤ w ∧ w < sW n D d) → 1 ≤ d → 0 < sW n D (d - 1) ∧ 0 < sW n D 1 := fun gw _ => ⟨sW_p hO (by omega) (show d - 1 ≤ d by omega) gw, sW_p hO (by omega) (by omega) gw⟩
  have hwb := sW_b (k := d) hO
  refine wp_run 3 (pc' := 3) (ls' := [some (.inr (.inr (r_Nought0, 0))), some (.inl d), some (.inl w)]) (st' := [.inl w, .inl d, .inr (.inr (r_Nought0, 0))]) (σ' := srl σ []) rfl ?_
  refine wp_fnv (v := .inl (bI (0 ≤ w ∧ w < sW n D d))) rfl rfl rfl rfl (ct_X3_hasWord_Nought0 σ n D p d w hI (by omega) (by omega)) ?_
  show en_wp k_X3_isBasic 6 [some (.inr (.inr (r_Nought0, 0))), some (.inl d), some (.inl w)] [.inl (bI (0 ≤ w ∧ w < sW n D d))] (srl σ []) _
  refine wp_if_eqb rfl (fun h_1 => ?_) (fun h_1 => ?_)
  · show en_wp k_X3_isBasic 41 [some (.inr (.inr (r_Nought0, 0))), some (.inl d), some (.inl w)] [] (srl σ []) _
    refine wp_run 1 (pc' := 42) (ls' := [some (.inr (.inr (r_Nought0, 0))), some (.inl d), some (.inl w)]) (st' := [.inl 0]) (σ' := srl σ []) rfl ?_
    exact wp_zret rfl (.inl rfl) ⟨(by first | rw [bI_t (by omega)] | rw [bI_f (by omega)]), rfl⟩
  · show en_wp k_X3_isBasic 9 [some (.inr (.inr (r_Nought0, 0))), some (.inl d), some (.inl w)] [] (srl σ []) _
    refine wp_run 3 (pc' := 12) (ls' := [some (.inr (.inr (r_Nought0, 0))), some (.inl d), some (.inl w)]) (st' := [.inl w, .inl d, .inr (.inr (r_Nought0, 0))]) (σ' := srl σ []) rfl ?_
    refine wp_fnv (v := .inl (bI (1 ≤ d ∧ ¬ (σ r_Nought0_leading) (sS n D d + w) = 0 ∧ (σ r_Nought0_leading) (sS n D (d - 1) + w % sW n D (d - 1)) = 0))) rfl rfl rfl rfl (ct_X3_leadsAnew_Nought0 σ n D p d w hI (by omega) (by omega) g01) ?_
    show en_wp k_X3_isBasic 15 [some (.inr (.inr (r_Nought0, 0))), some (.inl d), some (.inl w)] [.inl (bI (1 ≤ d ∧ ¬ (σ r_Nought0_leading) (sS n D d + w) = 0 ∧ (σ r_Nought0_leading) (sS n D (d - 1) + w % sW n D (d - 1)) = 0))] (srl σ []) _
    refine wp_if_eqb rfl (fun h_2 => ?_) (fun h_2 => ?_)
    · show en_wp k_X3_isBasic 41 [some (.inr (.inr (r_Nought0, 0))), some (.inl d), some (.inl w)] [] (srl σ []) _
      refine wp_run 1 (pc' := 42) (ls' := [some (.inr (.inr (r_Nought0, 0))), some (.inl d), some (.inl w)]) (st' := [.inl 0]) (σ' := srl σ []) rfl ?_
      exact wp_zret rfl (.inl rfl) ⟨(by first | rw [bI_t (by omega)] | rw [bI_f (by omega)]), rfl⟩
    · show en_wp k_X3_isBasic 18 [some (.inr (.inr (r_Nought0, 0))), some (.inl d), some (.inl w)] [] (srl σ []) _
      refine wp_run 8 (pc' := 28) (ls' := [some (.inr (.inr (r_Nought0, 0))), some (.inl d), some (.inl w)]) (st' := [.inl 1, .inl w, .inr (.inr (r_Shape0, 0)), .inl (d - 1), .inr (.inr (r_Nought0, 0))]) (σ' := srl σ []) rfl ?_
      refine wp_fnv (v := .inl (w / sW n D 1)) rfl rfl rfl rfl (ct_X5_headOf_Shape0_p σ n D p w 1 hI (by omega) (by omega) (by omega)) ?_
      show en_wp k_X3_isBasic 31 [some (.inr (.inr (r_Nought0, 0))), some (.inl d), some (.inl w)] [.inl (w / sW n D 1), .inl (d - 1), .inr (.inr (r_Nought0, 0))] (srl σ []) _
      have q_3 : 0 ≤ w / sW n D 1 := Int.ediv_nonneg (by omega) (by omega)
      have hhd : w / sW n D 1 < sW n D (d - 1) := by
        refine Int.ediv_lt_of_lt_mul (by omega) ?_
        rw [← sW_add (by omega) (by omega) (by omega), show d - 1 + 1 = d by omega]
        omega
      refine wp_fnv (v := .inl (bI (¬ (σ r_Nought0_leading) (sS n D (d - 1) + (w / sW n D 1)) = 0))) rfl rfl rfl rfl (ct_X3_leads_Nought0 σ n D p (d - 1) (w / sW n D 1) hI (by omega) (by omega) g01) ?_
      show en_wp k_X3_isBasic 34 [some (.inr (.inr (r_Nought0, 0))), some (.inl d), some (.inl w)] [.inl (bI (¬ (σ r_Nought0_leading) (sS n D (d - 1) + (w / sW n D 1)) = 0))] (srl σ []) _
      refine wp_if_neb rfl (fun h_4 => ?_) (fun h_4 => ?_)
      · show en_wp k_X3_isBasic 41 [some (.inr (.inr (r_Nought0, 0))), some (.inl d), some (.inl w)] [] (srl σ []) _
        refine wp_run 1 (pc' := 42) (ls' := [some (.inr (.inr (r_Nought0, 0))), some (.inl d), some (.inl w)]) (st' := [.inl 0]) (σ' := srl σ []) rfl ?_
        exact wp_zret rfl (.inl rfl) ⟨(by first | rw [bI_t (by omega)] | rw [bI_f (by omega)]), rfl⟩
      · show en_wp k_X3_isBasic 37 [some (.inr (.inr (r_Nought0, 0))), some (.inl d), some (.inl w)] [] (srl σ []) _
        refine wp_run 2 (pc' := 42) (ls' := [some (.inr (.inr (r_Nought0, 0))), some (.inl d), some (.inl w)]) (st' := [.inl 1]) (σ' := srl σ []) rfl ?_
        exact wp_zret rfl (.inr rfl) ⟨(by first | rw [bI_t (by omega)] | rw [bI_f (by omega)]), rfl⟩
theorem ct_X3_formAt_Nought0 (σ : en_m) (n : Int) (D : Int) (p : Int) (d : Int) (o : Int) (k : Int) (hI : cS0 σ n D p) (gd : 0 ≤ d ∧ d ≤ D) (gst : (σ r_Nought0_formStart) d = sQ n D d) (go : 0 ≤ o ∧ o < sW n D d) (gk : 0 ≤ k ∧ k < sW n D d) : en_fn z_X3_formAt [.inr (.inr (r_Nought0, 0)), .inl d, .inl o, .inl k] σ (.inl ((σ r_Nought0_forms) (sQ n D d + o * sW n D d + k))) := by
  show en_wp k_X3_formAt 0 [some (.inr (.inr (r_Nought0, 0))), some (.inl d), some (.inl o), some (.inl k), none] [] (srl σ []) (fun r σ' => r = some (.inl ((σ r_Nought0_forms) (sQ n D d + o * sW n D d + k))) ∧ σ' = σ)
  have hI2 := hI
  obtain ⟨hO, hn, hD, hp, hm, hst, hln⟩ := hI2
  obtain ⟨⟨hO1, hO2⟩, ⟨hO3, hO4⟩, hO5, hO6, hO7, hO8⟩ := id hO
  refine wp_run 3 (pc' := 5) (ls' := [some (.inr (.inr (r_Nought0, 0))), some (.inl d), some (.inl o), some (.inl k), none]) (st' := [.inl d, .inr (.inr (r_Nought0_formStart, 0))]) (σ' := srl σ []) rfl ?_
  refine wp_iald0 rfl rfl (by omega) ?_
  show en_wp k_X3_formAt 6 [some (.inr (.inr (r_Nought0, 0))), some (.inl d), some (.inl o), some (.inl k), none] [.inl (σ r_Nought0_formStart d)] (srl σ []) _
  refine wp_run 4 (pc' := 12) (ls' := [some (.inr (.inr (r_Nought0, 0))), some (.inl d), some (.inl o), some (.inl k), none]) (st' := [.inl d, .inr (.inr (r_Shape0, 0)), .inl o, .inl (σ r_Nought0_formStart d)]) (σ' := srl σ []) rfl ?_
  refine wp_fnv (v := .inl (sW n D d)) rfl rfl rfl rfl (ct_X5_wordsOf_Shape0 σ n D p d hI (by omega)) ?_
  show en_wp k_X3_formAt 15 [some (.inr (.inr (r_Nought0, 0))), some (.inl d), some (.inl o), some (.inl k), none] [.inl (sW n D d), .inl o, .inl (σ r_Nought0_formStart d)] (srl σ []) _
  have q_1 : 0 ≤ sW n D d ∧ sW n D d ≤ 256 := sW_b hO
  refine wp_run 6 (pc' := 23) (ls' := [some (.inr (.inr (r_Nought0, 0))), some (.inl d), some (.inl o), some (.inl k), some (.inl (((σ r_Nought0_formStart d) + (o * (sW n D d))) + k))]) (st' := [.inl (((σ r_Nought0_formStart d) + (o * (sW n D d))) + k)]) (σ' := srl σ []) rfl ?_
  have hat := sQ_in hO gd.1 go gk
  rw [← gst] at hat
  refine wp_if_lt rfl (by omega) (fun h_2 => ?_) (fun h_2 => ?_)
  · exfalso; omega
  · show en_wp k_X3_formAt 26 [some (.inr (.inr (r_Nought0, 0))), some (.inl d), some (.inl o), some (.inl k), some (.inl (((σ r_Nought0_formStart d) + (o * (sW n D d))) + k))] [] (srl σ []) _
    refine wp_run 2 (pc' := 30) (ls' := [some (.inr (.inr (r_Nought0, 0))), some (.inl d), some (.inl o), some (.inl k), some (.inl (((σ r_Nought0_formStart d) + (o * (sW n D d))) + k))]) (st' := [.inl 69905, .inl (((σ r_Nought0_formStart d) + (o * (sW n D d))) + k)]) (σ' := srl σ []) rfl ?_
    refine wp_ic_ge rfl (by omega) (by omega) (fun h_3 => ?_) (fun h_3 => ?_)
    · exfalso; omega
    · show en_wp k_X3_formAt 33 [some (.inr (.inr (r_Nought0, 0))), some (.inl d), some (.inl o), some (.inl k), some (.inl (((σ r_Nought0_formStart d) + (o * (sW n D d))) + k))] [] (srl σ []) _
      refine wp_run 3 (pc' := 39) (ls' := [some (.inr (.inr (r_Nought0, 0))), some (.inl d), some (.inl o), some (.inl k), some (.inl (((σ r_Nought0_formStart d) + (o * (sW n D d))) + k))]) (st' := [.inl (((σ r_Nought0_formStart d) + (o * (sW n D d))) + k), .inr (.inr (r_Nought0_forms, 0))]) (σ' := srl σ []) rfl ?_
      refine wp_iald0 rfl rfl (by omega) ?_
      show en_wp k_X3_formAt 40 [some (.inr (.inr (r_Nought0, 0))), some (.inl d), some (.inl o), some (.inl k), some (.inl (((σ r_Nought0_formStart d) + (o * (sW n D d))) + k))] [.inl (σ r_Nought0_forms (((σ r_Nought0_formStart d) + (o * (sW n D d))) + k))] (srl σ []) _
      refine wp_run 1 (pc' := 44) (ls' := [some (.inr (.inr (r_Nought0, 0))), some (.inl d), some (.inl o), some (.inl k), some (.inl (((σ r_Nought0_formStart d) + (o * (sW n D d))) + k))]) (st' := [.inl (σ r_Nought0_forms (((σ r_Nought0_formStart d) + (o * (sW n D d))) + k))]) (σ' := srl σ []) rfl ?_
      exact wp_iret rfl ⟨(by rw [gst]), rfl⟩
theorem ct_X3_formOf_Nought0 (σ : en_m) (n : Int) (D : Int) (p : Int) (d : Int) (o : Int) (k : Int) (hI : cS0 σ n D p) (gd : 0 ≤ d ∧ d ≤ D) (gst : (σ r_Nought0_formStart) d = sQ n D d) (h1 : i32 o) (h2 : i32 k) : en_fn z_X3_formOf [.inr (.inr (r_Nought0, 0)), .inl d, .inl o, .inl k] σ (.inl (if (0 ≤ o ∧ o < sW n D d) ∧ 0 ≤ k ∧ k < sW n D d then (σ r_Nought0_forms) (sQ n D d + o * sW n D d + k) else 0)) := by
  show en_wp k_X3_formOf 0 [some (.inr (.inr (r_Nought0, 0))), some (.inl d), some (.inl o), some (.inl k)] [] (srl σ []) (fun r σ' => r = some (.inl (if (0 ≤ o ∧ o < sW n D d) ∧ 0 ≤ k ∧ k < sW n D d then (σ r_Nought0_forms) (sQ n D d + o * sW n D d + k) else 0)) ∧ σ' = σ)
  have hI2 := hI
  obtain ⟨hO, hn, hD, hp, hm, hst, hln⟩ := hI2
  obtain ⟨⟨hO1, hO2⟩, ⟨hO3, hO4⟩, hO5, hO6, hO7, hO8⟩ := id hO
  refine wp_run 3 (pc' := 3) (ls' := [some (.inr (.inr (r_Nought0, 0))), some (.inl d), some (.inl o), some (.inl k)]) (st' := [.inl o, .inl d, .inr (.inr (r_Nought0, 0))]) (σ' := srl σ []) rfl ?_
  refine wp_fnv (v := .inl (bI (0 ≤ o ∧ o < sW n D d))) rfl rfl rfl rfl (ct_X3_hasWord_Nought0 σ n D p d o hI (by omega) (by omega)) ?_
  show en_wp k_X3_formOf 6 [some (.inr (.inr (r_Nought0, 0))), some (.inl d), some (.inl o), some (.inl k)] [.inl (bI (0 ≤ o ∧ o < sW n D d))] (srl σ []) _
  refine wp_if_eqb rfl (fun h_1 => ?_) (fun h_1 => ?_)
  · show en_wp k_X3_formOf 28 [some (.inr (.inr (r_Nought0, 0))), some (.inl d), some (.inl o), some (.inl k)] [] (srl σ []) _
    refine wp_run 1 (pc' := 29) (ls' := [some (.inr (.inr (r_Nought0, 0))), some (.inl d), some (.inl o), some (.inl k)]) (st' := [.inl 0]) (σ' := srl σ []) rfl ?_
    exact wp_iret rfl ⟨(by repeat (first | rfl | rw [if_pos (by omega)] | rw [if_neg (by omega)])), rfl⟩
  · show en_wp k_X3_formOf 9 [some (.inr (.inr (r_Nought0, 0))), some (.inl d), some (.inl o), some (.inl k)] [] (srl σ []) _
    refine wp_run 3 (pc' := 12) (ls' := [some (.inr (.inr (r_Nought0, 0))), some (.inl d), some (.inl o), some (.inl k)]) (st' := [.inl k, .inl d, .inr (.inr (r_Nought0, 0))]) (σ' := srl σ []) rfl ?_
    refine wp_fnv (v := .inl (bI (0 ≤ k ∧ k < sW n D d))) rfl rfl rfl rfl (ct_X3_hasWord_Nought0 σ n D p d k hI (by omega) (by omega)) ?_
    show en_wp k_X3_formOf 15 [some (.inr (.inr (r_Nought0, 0))), some (.inl d), some (.inl o), some (.inl k)] [.inl (bI (0 ≤ k ∧ k < sW n D d))] (srl σ []) _
    refine wp_if_eqb rfl (fun h_2 => ?_) (fun h_2 => ?_)
    · show en_wp k_X3_formOf 28 [some (.inr (.inr (r_Nought0, 0))), some (.inl d), some (.inl o), some (.inl k)] [] (srl σ []) _
      refine wp_run 1 (pc' := 29) (ls' := [some (.inr (.inr (r_Nought0, 0))), some (.inl d), some (.inl o), some (.inl k)]) (st' := [.inl 0]) (σ' := srl σ []) rfl ?_
      exact wp_iret rfl ⟨(by repeat (first | rfl | rw [if_pos (by omega)] | rw [if_neg (by omega)])), rfl⟩
    · show en_wp k_X3_formOf 18 [some (.inr (.inr (r_Nought0, 0))), some (.inl d), some (.inl o), some (.inl k)] [] (srl σ []) _
      refine wp_run 4 (pc' := 22) (ls' := [some (.inr (.inr (r_Nought0, 0))), some (.inl d), some (.inl o), some (.inl k)]) (st' := [.inl k, .inl o, .inl d, .inr (.inr (r_Nought0, 0))]) (σ' := srl σ []) rfl ?_
      refine wp_fnv (v := .inl ((σ r_Nought0_forms) (sQ n D d + o * sW n D d + k))) rfl rfl rfl rfl (ct_X3_formAt_Nought0 σ n D p d o k hI (by omega) gst (by omega) (by omega)) ?_
      show en_wp k_X3_formOf 25 [some (.inr (.inr (r_Nought0, 0))), some (.inl d), some (.inl o), some (.inl k)] [.inl ((σ r_Nought0_forms) (sQ n D d + o * sW n D d + k))] (srl σ []) _
      refine wp_run 1 (pc' := 29) (ls' := [some (.inr (.inr (r_Nought0, 0))), some (.inl d), some (.inl o), some (.inl k)]) (st' := [.inl ((σ r_Nought0_forms) (sQ n D d + o * sW n D d + k))]) (σ' := srl σ []) rfl ?_
      exact wp_iret rfl ⟨(by repeat (first | rfl | rw [if_pos (by omega)] | rw [if_neg (by omega)])), rfl⟩
theorem ct_X3_forget_Nought0 (σ : en_m) : en_ct z_X3_forget [.inr (.inr (r_Nought0, 0))] σ (fun r σ' => r = none ∧ σ' = srl σ [(r_Nought0_lawsNow, (fun _ => 0)), (r_Nought0_reached, (fun _ => -1))]) := by
  show en_wp k_X3_forget 0 [some (.inr (.inr (r_Nought0, 0)))] [] (srl σ []) (fun r σ' => r = none ∧ σ' = srl σ [(r_Nought0_lawsNow, (fun _ => 0)), (r_Nought0_reached, (fun _ => -1))])
  refine wp_run 2 (pc' := 2) (ls' := [some (.inr (.inr (r_Nought0, 0)))]) (st' := [.inl 0, .inr (.inr (r_Nought0, 0))]) (σ' := srl σ []) rfl ?_
  refine wp_st (x := (5, [some (.inr (.inr (r_Nought0, 0)))], [], sr (srl σ []) r_Nought0_lawsNow (fun _ => 0))) rfl rfl (wp_wr (l2 := [(r_Nought0_lawsNow, (fun _ => 0))]) rfl ?_)
  show en_wp k_X3_forget 5 [some (.inr (.inr (r_Nought0, 0)))] [] (srl σ [(r_Nought0_lawsNow, (fun _ => 0))]) _
  refine wp_run 2 (pc' := 7) (ls' := [some (.inr (.inr (r_Nought0, 0)))]) (st' := [.inl (-1), .inr (.inr (r_Nought0, 0))]) (σ' := srl σ [(r_Nought0_lawsNow, (fun _ => 0))]) rfl ?_
  refine wp_st (x := (10, [some (.inr (.inr (r_Nought0, 0)))], [], sr (srl σ [(r_Nought0_lawsNow, (fun _ => 0))]) r_Nought0_reached (fun _ => (-1)))) rfl rfl (wp_wr (l2 := [(r_Nought0_lawsNow, (fun _ => 0)), (r_Nought0_reached, (fun _ => (-1)))]) rfl ?_)
  show en_wp k_X3_forget 10 [some (.inr (.inr (r_Nought0, 0)))] [] (srl σ [(r_Nought0_lawsNow, (fun _ => 0)), (r_Nought0_reached, (fun _ => (-1)))]) _
  exact wp_vret rfl ⟨rfl, srl_eq (l' := [(r_Nought0_lawsNow, (fun _ => 0)), (r_Nought0_reached, (fun _ => -1))]) (And.intro rfl (And.intro rfl trivial)) (And.intro rfl (And.intro rfl trivial))⟩
theorem ct_X3_lawCounts_Nought0 (σ : en_m) (i : Int) (w : Int) (h1 : i32 i) (h2 : i32 w) (h3 : 0 ≤ (σ r_Nought0_lawsNow) 0 ∧ (σ r_Nought0_lawsNow) 0 ≤ 16) : en_fn z_X3_lawCounts [.inr (.inr (r_Nought0, 0)), .inl i, .inl w] σ (.inl (if (0 ≤ i ∧ i < (σ r_Nought0_lawsNow) 0) ∧ 0 ≤ w ∧ w < 256 then (σ r_Nought0_lawsR) (i * 256 + w) else 0)) := by
  show en_wp k_X3_lawCounts 0 [some (.inr (.inr (r_Nought0, 0))), some (.inl i), some (.inl w)] [] (srl σ []) (fun r σ' => r = some (.inl (if (0 ≤ i ∧ i < (σ r_Nought0_lawsNow) 0) ∧ 0 ≤ w ∧ w < 256 then (σ r_Nought0_lawsR) (i * 256 + w) else 0)) ∧ σ' = σ)
  refine wp_run 1 (pc' := 1) (ls' := [some (.inr (.inr (r_Nought0, 0))), some (.inl i), some (.inl w)]) (st' := [.inl i]) (σ' := srl σ []) rfl ?_
  refine wp_if_lt rfl (by omega) (fun h_1 => ?_) (fun h_1 => ?_)
  · show en_wp k_X3_lawCounts 34 [some (.inr (.inr (r_Nought0, 0))), some (.inl i), some (.inl w)] [] (srl σ []) _
    refine wp_run 1 (pc' := 35) (ls' := [some (.inr (.inr (r_Nought0, 0))), some (.inl i), some (.inl w)]) (st' := [.inl 0]) (σ' := srl σ []) rfl ?_
    exact wp_iret rfl ⟨(by repeat (first | rfl | rw [if_pos (by omega)] | rw [if_neg (by omega)])), rfl⟩
  · show en_wp k_X3_lawCounts 4 [some (.inr (.inr (r_Nought0, 0))), some (.inl i), some (.inl w)] [] (srl σ []) _
    refine wp_run 3 (pc' := 9) (ls' := [some (.inr (.inr (r_Nought0, 0))), some (.inl i), some (.inl w)]) (st' := [.inl (σ r_Nought0_lawsNow 0), .inl i]) (σ' := srl σ []) rfl ?_
    refine wp_ic_ge rfl (by omega) (by omega) (fun h_2 => ?_) (fun h_2 => ?_)
    · show en_wp k_X3_lawCounts 34 [some (.inr (.inr (r_Nought0, 0))), some (.inl i), some (.inl w)] [] (srl σ []) _
      refine wp_run 1 (pc' := 35) (ls' := [some (.inr (.inr (r_Nought0, 0))), some (.inl i), some (.inl w)]) (st' := [.inl 0]) (σ' := srl σ []) rfl ?_
      exact wp_iret rfl ⟨(by repeat (first | rfl | rw [if_pos (by omega)] | rw [if_neg (by omega)])), rfl⟩
    · show en_wp k_X3_lawCounts 12 [some (.inr (.inr (r_Nought0, 0))), some (.inl i), some (.inl w)] [] (srl σ []) _
      refine wp_run 1 (pc' := 13) (ls' := [some (.inr (.inr (r_Nought0, 0))), some (.inl i), some (.inl w)]) (st' := [.inl w]) (σ' := srl σ []) rfl ?_
      refine wp_if_lt rfl (by omega) (fun h_3 => ?_) (fun h_3 => ?_)
      · show en_wp k_X3_lawCounts 34 [some (.inr (.inr (r_Nought0, 0))), some (.inl i), some (.inl w)] [] (srl σ []) _
        refine wp_run 1 (pc' := 35) (ls' := [some (.inr (.inr (r_Nought0, 0))), some (.inl i), some (.inl w)]) (st' := [.inl 0]) (σ' := srl σ []) rfl ?_
        exact wp_iret rfl ⟨(by repeat (first | rfl | rw [if_pos (by omega)] | rw [if_neg (by omega)])), rfl⟩
      · show en_wp k_X3_lawCounts 16 [some (.inr (.inr (r_Nought0, 0))), some (.inl i), some (.inl w)] [] (srl σ []) _
        refine wp_run 2 (pc' := 20) (ls' := [some (.inr (.inr (r_Nought0, 0))), some (.inl i), some (.inl w)]) (st' := [.inl 256, .inl w]) (σ' := srl σ []) rfl ?_
        refine wp_ic_ge rfl (by omega) (by omega) (fun h_4 => ?_) (fun h_4 => ?_)
        · show en_wp k_X3_lawCounts 34 [some (.inr (.inr (r_Nought0, 0))), some (.inl i), some (.inl w)] [] (srl σ []) _
          refine wp_run 1 (pc' := 35) (ls' := [some (.inr (.inr (r_Nought0, 0))), some (.inl i), some (.inl w)]) (st' := [.inl 0]) (σ' := srl σ []) rfl ?_
          exact wp_iret rfl ⟨(by repeat (first | rfl | rw [if_pos (by omega)] | rw [if_neg (by omega)])), rfl⟩
        · show en_wp k_X3_lawCounts 23 [some (.inr (.inr (r_Nought0, 0))), some (.inl i), some (.inl w)] [] (srl σ []) _
          refine wp_run 3 (pc' := 28) (ls' := [some (.inr (.inr (r_Nought0, 0))), some (.inl i), some (.inl w)]) (st' := [.inl i, .inr (.inr (r_Nought0_laws, 0))]) (σ' := srl σ []) rfl ?_
          refine wp_aald (m := 256) rfl rfl rfl (by omega) ?_
          show en_wp k_X3_lawCounts 29 [some (.inr (.inr (r_Nought0, 0))), some (.inl i), some (.inl w)] [.inr (.inr (r_Nought0_lawsR, (i * 256)))] (srl σ []) _
          refine wp_run 1 (pc' := 30) (ls' := [some (.inr (.inr (r_Nought0, 0))), some (.inl i), some (.inl w)]) (st' := [.inl w, .inr (.inr (r_Nought0_lawsR, (i * 256)))]) (σ' := srl σ []) rfl ?_
          refine wp_iald rfl rfl (by omega) ?_
          show en_wp k_X3_lawCounts 31 [some (.inr (.inr (r_Nought0, 0))), some (.inl i), some (.inl w)] [.inl (σ r_Nought0_lawsR ((i * 256) + w))] (srl σ []) _
          refine wp_run 1 (pc' := 35) (ls' := [some (.inr (.inr (r_Nought0, 0))), some (.inl i), some (.inl w)]) (st' := [.inl (σ r_Nought0_lawsR ((i * 256) + w))]) (σ' := srl σ []) rfl ?_
          exact wp_iret rfl ⟨(by repeat (first | rfl | rw [if_pos (by omega)] | rw [if_neg (by omega)])), rfl⟩
theorem ct_X3_reduce_Nought0 (σ : en_m) (n : Int) (D : Int) (p : Int) (d : Int) (m : Int) (hI : cS0 σ n D p) (gd : 0 ≤ d ∧ d ≤ D) (gm : m = sW n D d) (gst : (σ r_Nought0_formStart) d = sQ n D d) (grow : R97 ((σ r_Nought0_row))) (gfm : R97 ((σ r_Nought0_forms))) (gtri : ∀ w k, 0 ≤ w → w < k → k < sW n D d → (σ r_Nought0_forms) (sQ n D d + w * sW n D d + k) = 0) : en_ct z_X3_reduce [.inr (.inr (r_Nought0, 0)), .inl d, .inl m] σ (fun r σ' => ∃ (f_Nought0_reduced : Int → Int), r = none ∧ σ' = srl σ [(r_Nought0_reduced, f_Nought0_reduced)] ∧ (∀ x, 0 ≤ x → x < sW n D d → f_Nought0_reduced x = nfs (fun w k => (σ r_Nought0_forms) (sQ n D d + w * sW n D d + k)) (sW n D d) ((σ r_Nought0_row)) x % p)) := by
  show en_wp k_X3_reduce 0 [some (.inr (.inr (r_Nought0, 0))), some (.inl d), some (.inl m), none, none, none, none] [] (srl σ []) (fun r σ' => ∃ (f_Nought0_reduced : Int → Int), r = none ∧ σ' = srl σ [(r_Nought0_reduced, f_Nought0_reduced)] ∧ (∀ x, 0 ≤ x → x < sW n D d → f_Nought0_reduced x = nfs (fun w k => (σ r_Nought0_forms) (sQ n D d + w * sW n D d + k)) (sW n D d) ((σ r_Nought0_row)) x % p))
  have hI2 := hI
  obtain ⟨hO, hn, hD, hp, hm, hst, hln⟩ := hI2
  obtain ⟨⟨hO1, hO2⟩, ⟨hO3, hO4⟩, hO5, hO6, hO7, hO8⟩ := id hO
  have hWb := sW_b (k := d) hO
  have hp2 := hO.2.2.2.2.1
  have L_86 : ∀ (N : Nat) (k : Int) (X : Int → Int), (0 ≤ k ∧ k ≤ sW n D d) → (X = seg (σ r_Nought0_reduced) 0 256 (rS2 (σ r_Nought0_row) (fun w k => σ r_Nought0_forms (sQ n D d + w * sW n D d + k)) (sW n D d) p k)) → (sW n D d - k).toNat < N → en_wp k_X3_reduce 86 [some (.inr (.inr (r_Nought0, 0))), some (.inl d), some (.inl m), some (.inl k), none, none, none] [] (srl σ [(r_Nought0_reduced, X)]) (fun r σ' => ∃ (f_Nought0_reduced : Int → Int), r = none ∧ σ' = srl σ [(r_Nought0_reduced, f_Nought0_reduced)] ∧ (∀ x, 0 ≤ x → x < sW n D d → f_Nought0_reduced x = nfs (fun w k => (σ r_Nought0_forms) (sQ n D d + w * sW n D d + k)) (sW n D d) ((σ r_Nought0_row)) x % p)) := by
    intro N
    induction N with
    | zero => intro k X; intros; omega
    | succ N ih_86 =>
      intro k X hk hX hN_86
      refine wp_run 2 (pc' := 88) (ls' := [some (.inr (.inr (r_Nought0, 0))), some (.inl d), some (.inl m), some (.inl k), none, none, none]) (st' := [.inl m, .inl k]) (σ' := srl σ [(r_Nought0_reduced, X)]) rfl ?_
      refine wp_ic_ge rfl (by omega) (by omega) (fun h_1 => ?_) (fun h_1 => ?_)
      · show en_wp k_X3_reduce 116 [some (.inr (.inr (r_Nought0, 0))), some (.inl d), some (.inl m), some (.inl k), none, none, none] [] (srl σ [(r_Nought0_reduced, X)]) _
        exact wp_vret rfl ⟨X, rfl, srl_eq (l' := [(r_Nought0_reduced, X)]) (And.intro rfl trivial) (And.intro rfl trivial), (rS_fin hX (by omega) (by omega))⟩
      · show en_wp k_X3_reduce 91 [some (.inr (.inr (r_Nought0, 0))), some (.inl d), some (.inl m), some (.inl k), none, none, none] [] (srl σ [(r_Nought0_reduced, X)]) _
        refine wp_run 8 (pc' := 105) (ls' := [some (.inr (.inr (r_Nought0, 0))), some (.inl d), some (.inl m), some (.inl k), none, none, none]) (st' := [.inl k, .inr (.inr (r_Nought0_reduced, 0)), .inr (.inr (r_Shape0, 0)), .inl k, .inr (.inr (r_Nought0_reduced, 0))]) (σ' := srl σ [(r_Nought0_reduced, X)]) rfl ?_
        refine wp_iald0 rfl rfl (by omega) ?_
        show en_wp k_X3_reduce 106 [some (.inr (.inr (r_Nought0, 0))), some (.inl d), some (.inl m), some (.inl k), none, none, none] [.inl (X k), .inr (.inr (r_Shape0, 0)), .inl k, .inr (.inr (r_Nought0_reduced, 0))] (srl σ [(r_Nought0_reduced, X)]) _
        have hXb := rS_b hX (w := k) (by omega) (by omega) (by omega) grow (fun i _ _ => gfm _)
        refine wp_fnv (v := .inl ((X k) % p)) rfl rfl rfl rfl (ct_X5_rest_Shape0 (srl σ [(r_Nought0_reduced, X)]) n D p (X k) hI (by omega)) ?_
        show en_wp k_X3_reduce 109 [some (.inr (.inr (r_Nought0, 0))), some (.inl d), some (.inl m), some (.inl k), none, none, none] [.inl ((X k) % p), .inl k, .inr (.inr (r_Nought0_reduced, 0))] (srl σ [(r_Nought0_reduced, X)]) _
        have q_2 : 0 ≤ (X k) % p ∧ (X k) % p < p := sR_lt hO.2.2.2
        refine wp_iast0 rfl rfl (by omega) (wp_wr (l2 := [(r_Nought0_reduced, (up X k ((X k) % p)))]) rfl ?_)
        show en_wp k_X3_reduce 110 [some (.inr (.inr (r_Nought0, 0))), some (.inl d), some (.inl m), some (.inl k), none, none, none] [] (srl σ [(r_Nought0_reduced, (up X k ((X k) % p)))]) _
        refine wp_run 2 (pc' := 86) (ls' := [some (.inr (.inr (r_Nought0, 0))), some (.inl d), some (.inl m), some (.inl (k + 1)), none, none, none]) (st' := []) (σ' := srl σ [(r_Nought0_reduced, (up X k ((X k) % p)))]) rfl ?_
        exact ih_86 (k + 1) (up X k ((X k) % p)) (by omega) (rS_st2 hX (by omega) (by omega)) (by omega)
  have L_10 : ∀ (N : Nat) (w : Int) (X : Int → Int), (0 ≤ w ∧ w ≤ sW n D d) → (X = seg (σ r_Nought0_reduced) 0 256 (rS (σ r_Nought0_row) (fun w k => σ r_Nought0_forms (sQ n D d + w * sW n D d + k)) (sW n D d) w)) → (sW n D d - w).toNat < N → en_wp k_X3_reduce 10 [some (.inr (.inr (r_Nought0, 0))), some (.inl d), some (.inl m), some (.inl w), none, none, none] [] (srl σ [(r_Nought0_reduced, X)]) (fun r σ' => ∃ (f_Nought0_reduced : Int → Int), r = none ∧ σ' = srl σ [(r_Nought0_reduced, f_Nought0_reduced)] ∧ (∀ x, 0 ≤ x → x < sW n D d → f_Nought0_reduced x = nfs (fun w k => (σ r_Nought0_forms) (sQ n D d + w * sW n D d + k)) (sW n D d) ((σ r_Nought0_row)) x % p)) := by
    intro N
    induction N with
    | zero => intro w X; intros; omega
    | succ N ih_10 =>
      intro w X hw hX hN_10
      have L_38 : ∀ (N : Nat) (k : Int) (X : Int → Int), (w < sW n D d) → (0 ≤ k ∧ k ≤ w + 1) → (X = seg (σ r_Nought0_reduced) 0 256 (rS1 (σ r_Nought0_row) (fun w k => σ r_Nought0_forms (sQ n D d + w * sW n D d + k)) (sW n D d) w k)) → (w + 1 - k).toNat < N → en_wp k_X3_reduce 38 [some (.inr (.inr (r_Nought0, 0))), some (.inl d), some (.inl m), some (.inl w), some (.inl (σ r_Nought0_row w)), some (.inl (σ r_Nought0_formStart d + w * m)), some (.inl k)] [] (srl σ [(r_Nought0_reduced, X)]) (fun r σ' => ∃ (f_Nought0_reduced : Int → Int), r = none ∧ σ' = srl σ [(r_Nought0_reduced, f_Nought0_reduced)] ∧ (∀ x, 0 ≤ x → x < sW n D d → f_Nought0_reduced x = nfs (fun w k => (σ r_Nought0_forms) (sQ n D d + w * sW n D d + k)) (sW n D d) ((σ r_Nought0_row)) x % p)) := by
        intro N
        induction N with
        | zero => intro k X; intros; omega
        | succ N ih_38 =>
          intro k X hww hk hY hN_38
          refine wp_run 2 (pc' := 41) (ls' := [some (.inr (.inr (r_Nought0, 0))), some (.inl d), some (.inl m), some (.inl w), some (.inl (σ r_Nought0_row w)), some (.inl (σ r_Nought0_formStart d + w * m)), some (.inl k)]) (st' := [.inl w, .inl k]) (σ' := srl σ [(r_Nought0_reduced, X)]) rfl ?_
          refine wp_ic_gt rfl (by omega) (by omega) (fun h_3 => ?_) (fun h_3 => ?_)
          · have hXn := rS_e1 hY hw.1 (fun x h8 h9 => by
              show σ r_Nought0_row w * σ r_Nought0_forms (sQ n D d + w * sW n D d + x) = 0
              rw [gtri w x (by omega) (by omega) h9, Int.mul_zero])
            show en_wp k_X3_reduce 78 [some (.inr (.inr (r_Nought0, 0))), some (.inl d), some (.inl m), some (.inl w), some (.inl (σ r_Nought0_row w)), some (.inl (σ r_Nought0_formStart d + w * m)), some (.inl k)] [] (srl σ [(r_Nought0_reduced, X)]) _
            refine wp_run 2 (pc' := 10) (ls' := [some (.inr (.inr (r_Nought0, 0))), some (.inl d), some (.inl m), some (.inl (w + 1)), some (.inl (σ r_Nought0_row w)), some (.inl (σ r_Nought0_formStart d + w * m)), some (.inl k)]) (st' := []) (σ' := srl σ [(r_Nought0_reduced, X)]) rfl ?_
            refine wp_sub (l := [some (.inr (.inr (r_Nought0, 0))), some (.inl d), some (.inl m), some (.inl (w + 1)), none, none, none]) (And.intro rfl (And.intro rfl (And.intro rfl (And.intro rfl trivial)))) ?_
            exact ih_10 (w + 1) X (by omega) hXn (by omega)
          · show en_wp k_X3_reduce 44 [some (.inr (.inr (r_Nought0, 0))), some (.inl d), some (.inl m), some (.inl w), some (.inl (σ r_Nought0_row w)), some (.inl (σ r_Nought0_formStart d + w * m)), some (.inl k)] [] (srl σ [(r_Nought0_reduced, X)]) _
            refine wp_run 1 (pc' := 46) (ls' := [some (.inr (.inr (r_Nought0, 0))), some (.inl d), some (.inl m), some (.inl w), some (.inl (σ r_Nought0_row w)), some (.inl (σ r_Nought0_formStart d + w * m)), some (.inl k)]) (st' := [.inl (σ r_Nought0_row w)]) (σ' := srl σ [(r_Nought0_reduced, X)]) rfl ?_
            have hrw := grow w
            refine wp_if_eq rfl (by omega) (fun h_4 => ?_) (fun h_4 => ?_)
            · have hXn := rS_e1 hY hw.1 (fun x h8 h9 => by rw [h_4, Int.zero_mul])
              show en_wp k_X3_reduce 78 [some (.inr (.inr (r_Nought0, 0))), some (.inl d), some (.inl m), some (.inl w), some (.inl (σ r_Nought0_row w)), some (.inl (σ r_Nought0_formStart d + w * m)), some (.inl k)] [] (srl σ [(r_Nought0_reduced, X)]) _
              refine wp_run 2 (pc' := 10) (ls' := [some (.inr (.inr (r_Nought0, 0))), some (.inl d), some (.inl m), some (.inl (w + 1)), some (.inl (σ r_Nought0_row w)), some (.inl (σ r_Nought0_formStart d + w * m)), some (.inl k)]) (st' := []) (σ' := srl σ [(r_Nought0_reduced, X)]) rfl ?_
              refine wp_sub (l := [some (.inr (.inr (r_Nought0, 0))), some (.inl d), some (.inl m), some (.inl (w + 1)), none, none, none]) (And.intro rfl (And.intro rfl (And.intro rfl (And.intro rfl trivial)))) ?_
              exact ih_10 (w + 1) X (by omega) hXn (by omega)
            · show en_wp k_X3_reduce 49 [some (.inr (.inr (r_Nought0, 0))), some (.inl d), some (.inl m), some (.inl w), some (.inl (σ r_Nought0_row w)), some (.inl (σ r_Nought0_formStart d + w * m)), some (.inl k)] [] (srl σ [(r_Nought0_reduced, X)]) _
              refine wp_run 4 (pc' := 56) (ls' := [some (.inr (.inr (r_Nought0, 0))), some (.inl d), some (.inl m), some (.inl w), some (.inl (σ r_Nought0_row w)), some (.inl (σ r_Nought0_formStart d + w * m)), some (.inl k)]) (st' := [.inl k, .inr (.inr (r_Nought0_reduced, 0)), .inl k, .inr (.inr (r_Nought0_reduced, 0))]) (σ' := srl σ [(r_Nought0_reduced, X)]) rfl ?_
              refine wp_iald0 rfl rfl (by omega) ?_
              show en_wp k_X3_reduce 57 [some (.inr (.inr (r_Nought0, 0))), some (.inl d), some (.inl m), some (.inl w), some (.inl (σ r_Nought0_row w)), some (.inl (σ r_Nought0_formStart d + w * m)), some (.inl k)] [.inl (X k), .inl k, .inr (.inr (r_Nought0_reduced, 0))] (srl σ [(r_Nought0_reduced, X)]) _
              refine wp_run 6 (pc' := 68) (ls' := [some (.inr (.inr (r_Nought0, 0))), some (.inl d), some (.inl m), some (.inl w), some (.inl (σ r_Nought0_row w)), some (.inl (σ r_Nought0_formStart d + w * m)), some (.inl k)]) (st' := [.inl ((σ r_Nought0_formStart d + w * m) + k), .inr (.inr (r_Nought0_forms, 0)), .inl (σ r_Nought0_row w), .inl (X k), .inl k, .inr (.inr (r_Nought0_reduced, 0))]) (σ' := srl σ [(r_Nought0_reduced, X)]) rfl ?_
              have hat := sQ_in hO gd.1 (show 0 ≤ w ∧ w < sW n D d by omega) (show 0 ≤ k ∧ k < sW n D d by omega)
              rw [← gst, ← gm] at hat
              refine wp_iald0 rfl rfl (by omega) ?_
              show en_wp k_X3_reduce 69 [some (.inr (.inr (r_Nought0, 0))), some (.inl d), some (.inl m), some (.inl w), some (.inl (σ r_Nought0_row w)), some (.inl (σ r_Nought0_formStart d + w * m)), some (.inl k)] [.inl (σ r_Nought0_forms ((σ r_Nought0_formStart d + w * m) + k)), .inl (σ r_Nought0_row w), .inl (X k), .inl k, .inr (.inr (r_Nought0_reduced, 0))] (srl σ [(r_Nought0_reduced, X)]) _
              refine wp_run 2 (pc' := 71) (ls' := [some (.inr (.inr (r_Nought0, 0))), some (.inl d), some (.inl m), some (.inl w), some (.inl (σ r_Nought0_row w)), some (.inl (σ r_Nought0_formStart d + w * m)), some (.inl k)]) (st' := [.inl ((X k) + ((σ r_Nought0_row w) * (σ r_Nought0_forms ((σ r_Nought0_formStart d + w * m) + k)))), .inl k, .inr (.inr (r_Nought0_reduced, 0))]) (σ' := srl σ [(r_Nought0_reduced, X)]) rfl ?_
              refine wp_iast0 rfl rfl (by omega) (wp_wr (l2 := [(r_Nought0_reduced, (up X k ((X k) + ((σ r_Nought0_row w) * (σ r_Nought0_forms ((σ r_Nought0_formStart d + w * m) + k))))))]) rfl ?_)
              show en_wp k_X3_reduce 72 [some (.inr (.inr (r_Nought0, 0))), some (.inl d), some (.inl m), some (.inl w), some (.inl (σ r_Nought0_row w)), some (.inl (σ r_Nought0_formStart d + w * m)), some (.inl k)] [] (srl σ [(r_Nought0_reduced, (up X k ((X k) + ((σ r_Nought0_row w) * (σ r_Nought0_forms ((σ r_Nought0_formStart d + w * m) + k))))))]) _
              refine wp_run 2 (pc' := 38) (ls' := [some (.inr (.inr (r_Nought0, 0))), some (.inl d), some (.inl m), some (.inl w), some (.inl (σ r_Nought0_row w)), some (.inl (σ r_Nought0_formStart d + w * m)), some (.inl (k + 1))]) (st' := []) (σ' := srl σ [(r_Nought0_reduced, (up X k ((X k) + ((σ r_Nought0_row w) * (σ r_Nought0_forms ((σ r_Nought0_formStart d + w * m) + k))))))]) rfl ?_
              exact ih_38 (k + 1) (up X k ((X k) + ((σ r_Nought0_row w) * (σ r_Nought0_forms ((σ r_Nought0_formStart d + w * m) + k))))) (by omega) (by omega) (rS_st hY (by omega) (by omega) (by rw [gst, gm])) (by omega)
      refine wp_run 2 (pc' := 12) (ls' := [some (.inr (.inr (r_Nought0, 0))), some (.inl d), some (.inl m), some (.inl w), none, none, none]) (st' := [.inl m, .inl w]) (σ' := srl σ [(r_Nought0_reduced, X)]) rfl ?_
      refine wp_ic_ge rfl (by omega) (by omega) (fun h_5 => ?_) (fun h_5 => ?_)
      · have hwe : w = sW n D d := by omega
        rw [hwe] at hX
        show en_wp k_X3_reduce 84 [some (.inr (.inr (r_Nought0, 0))), some (.inl d), some (.inl m), some (.inl w), none, none, none] [] (srl σ [(r_Nought0_reduced, X)]) _
        refine wp_run 2 (pc' := 86) (ls' := [some (.inr (.inr (r_Nought0, 0))), some (.inl d), some (.inl m), some (.inl 0), none, none, none]) (st' := []) (σ' := srl σ [(r_Nought0_reduced, X)]) rfl ?_
        exact L_86 _ 0 X (by omega) (rS_02 hX) (Nat.lt_succ_self _)
      · show en_wp k_X3_reduce 15 [some (.inr (.inr (r_Nought0, 0))), some (.inl d), some (.inl m), some (.inl w), none, none, none] [] (srl σ [(r_Nought0_reduced, X)]) _
        refine wp_run 3 (pc' := 20) (ls' := [some (.inr (.inr (r_Nought0, 0))), some (.inl d), some (.inl m), some (.inl w), none, none, none]) (st' := [.inl w, .inr (.inr (r_Nought0_row, 0))]) (σ' := srl σ [(r_Nought0_reduced, X)]) rfl ?_
        refine wp_iald0 rfl rfl (by omega) ?_
        show en_wp k_X3_reduce 21 [some (.inr (.inr (r_Nought0, 0))), some (.inl d), some (.inl m), some (.inl w), none, none, none] [.inl (σ r_Nought0_row w)] (srl σ [(r_Nought0_reduced, X)]) _
        refine wp_run 4 (pc' := 28) (ls' := [some (.inr (.inr (r_Nought0, 0))), some (.inl d), some (.inl m), some (.inl w), some (.inl (σ r_Nought0_row w)), none, none]) (st' := [.inl d, .inr (.inr (r_Nought0_formStart, 0))]) (σ' := srl σ [(r_Nought0_reduced, X)]) rfl ?_
        refine wp_iald0 rfl rfl (by omega) ?_
        show en_wp k_X3_reduce 29 [some (.inr (.inr (r_Nought0, 0))), some (.inl d), some (.inl m), some (.inl w), some (.inl (σ r_Nought0_row w)), none, none] [.inl (σ r_Nought0_formStart d)] (srl σ [(r_Nought0_reduced, X)]) _
        refine wp_run 7 (pc' := 38) (ls' := [some (.inr (.inr (r_Nought0, 0))), some (.inl d), some (.inl m), some (.inl w), some (.inl (σ r_Nought0_row w)), some (.inl ((σ r_Nought0_formStart d) + (w * m))), some (.inl 0)]) (st' := []) (σ' := srl σ [(r_Nought0_reduced, X)]) rfl ?_
        exact L_38 _ 0 X (by omega) (by omega) (rS_01 hX) (Nat.lt_succ_self _)
  refine wp_run 3 (pc' := 5) (ls' := [some (.inr (.inr (r_Nought0, 0))), some (.inl d), some (.inl m), none, none, none, none]) (st' := [.inl 0, .inr (.inr (r_Nought0_reduced, 0))]) (σ' := srl σ []) rfl ?_
  refine wp_calls rfl rfl rfl rfl rfl (ct_J7_fill_53178_Nought0_reduced σ 0) ?_
  rintro _ _ ⟨rfl, rfl⟩
  show en_wp k_X3_reduce 8 [some (.inr (.inr (r_Nought0, 0))), some (.inl d), some (.inl m), none, none, none, none] [] (srl σ [(r_Nought0_reduced, (seg (σ r_Nought0_reduced) 0 256 (fun _ => 0)))]) _
  refine wp_run 2 (pc' := 10) (ls' := [some (.inr (.inr (r_Nought0, 0))), some (.inl d), some (.inl m), some (.inl 0), none, none, none]) (st' := []) (σ' := srl σ [(r_Nought0_reduced, (seg (σ r_Nought0_reduced) 0 256 (fun _ => 0)))]) rfl ?_
  exact L_10 _ 0 (seg (σ r_Nought0_reduced) 0 256 (fun _ => 0)) (by omega) rS_00 (Nat.lt_succ_self _)
theorem ct_X3_replace_Nought0 (σ : en_m) (n : Int) (D : Int) (p : Int) (at_ : Int) (l : Int) (hI : cS0 σ n D p) (h1 : 0 ≤ at_ ∧ 0 ≤ l ∧ l ≤ 255 ∧ at_ + l < 69905) (gfm : R97 ((σ r_Nought0_forms))) (gred : ∀ k, 0 ≤ k → k < l → 0 ≤ (σ r_Nought0_reduced) k ∧ (σ r_Nought0_reduced) k < 97) (gfp : ∀ k, 0 ≤ k → k < l → 0 ≤ (σ r_Nought0_forms) (at_ + k) ∧ (σ r_Nought0_forms) (at_ + k) < p) : en_ct z_X3_replace [.inr (.inr (r_Nought0, 0)), .inl at_, .inl l] σ (fun r σ' => ∃ (f_Nought0_forms : Int → Int), r = none ∧ σ' = srl σ [(r_Nought0_forms, f_Nought0_forms)] ∧ (f_Nought0_forms = up (seg ((σ r_Nought0_forms)) at_ l (fun k => ((σ r_Nought0_forms) (at_ + k) + (σ r_Nought0_forms) (at_ + l) * (σ r_Nought0_reduced) k) % p)) (at_ + l) 0)) := by
  show en_wp k_X3_replace 0 [some (.inr (.inr (r_Nought0, 0))), some (.inl at_), some (.inl l), none, none] [] (srl σ []) (fun r σ' => ∃ (f_Nought0_forms : Int → Int), r = none ∧ σ' = srl σ [(r_Nought0_forms, f_Nought0_forms)] ∧ (f_Nought0_forms = up (seg ((σ r_Nought0_forms)) at_ l (fun k => ((σ r_Nought0_forms) (at_ + k) + (σ r_Nought0_forms) (at_ + l) * (σ r_Nought0_reduced) k) % p)) (at_ + l) 0))
  have hI2 := hI
  obtain ⟨hO, hn, hD, hp, hm, hst, hln⟩ := hI2
  obtain ⟨⟨hO1, hO2⟩, ⟨hO3, hO4⟩, hO5, hO6, hO7, hO8⟩ := id hO
  have hfl := gfm (at_ + l)
  have L_17 : ∀ (N : Nat) (k : Int) (X : Int → Int), (0 ≤ k ∧ k ≤ l) → (X = seg (σ r_Nought0_forms) at_ k (fun k => (σ r_Nought0_forms (at_ + k) + σ r_Nought0_forms (at_ + l) * σ r_Nought0_reduced k) % p)) → (l - k).toNat < N → en_wp k_X3_replace 17 [some (.inr (.inr (r_Nought0, 0))), some (.inl at_), some (.inl l), some (.inl (σ r_Nought0_forms (at_ + l))), some (.inl k)] [] (srl σ [(r_Nought0_forms, X)]) (fun r σ' => ∃ (f_Nought0_forms : Int → Int), r = none ∧ σ' = srl σ [(r_Nought0_forms, f_Nought0_forms)] ∧ (f_Nought0_forms = up (seg ((σ r_Nought0_forms)) at_ l (fun k => ((σ r_Nought0_forms) (at_ + k) + (σ r_Nought0_forms) (at_ + l) * (σ r_Nought0_reduced) k) % p)) (at_ + l) 0)) := by
    intro N
    induction N with
    | zero => intro k X; intros; omega
    | succ N ih_17 =>
      intro k X hk hX hN_17
      refine wp_run 2 (pc' := 20) (ls' := [some (.inr (.inr (r_Nought0, 0))), some (.inl at_), some (.inl l), some (.inl (σ r_Nought0_forms (at_ + l))), some (.inl k)]) (st' := [.inl l, .inl k]) (σ' := srl σ [(r_Nought0_forms, X)]) rfl ?_
      refine wp_ic_ge rfl (by omega) (by omega) (fun h_1 => ?_) (fun h_1 => ?_)
      · show en_wp k_X3_replace 74 [some (.inr (.inr (r_Nought0, 0))), some (.inl at_), some (.inl l), some (.inl (σ r_Nought0_forms (at_ + l))), some (.inl k)] [] (srl σ [(r_Nought0_forms, X)]) _
        refine wp_run 6 (pc' := 82) (ls' := [some (.inr (.inr (r_Nought0, 0))), some (.inl at_), some (.inl l), some (.inl (σ r_Nought0_forms (at_ + l))), some (.inl k)]) (st' := [.inl 0, .inl (at_ + l), .inr (.inr (r_Nought0_forms, 0))]) (σ' := srl σ [(r_Nought0_forms, X)]) rfl ?_
        refine wp_iast0 rfl rfl (by omega) (wp_wr (l2 := [(r_Nought0_forms, (up X (at_ + l) 0))]) rfl ?_)
        show en_wp k_X3_replace 83 [some (.inr (.inr (r_Nought0, 0))), some (.inl at_), some (.inl l), some (.inl (σ r_Nought0_forms (at_ + l))), some (.inl k)] [] (srl σ [(r_Nought0_forms, (up X (at_ + l) 0))]) _
        exact wp_vret rfl ⟨(up X (at_ + l) 0), rfl, srl_eq (l' := [(r_Nought0_forms, (up X (at_ + l) 0))]) (And.intro rfl trivial) (And.intro rfl trivial), (by rw [hX, show k = l by omega])⟩
      · show en_wp k_X3_replace 23 [some (.inr (.inr (r_Nought0, 0))), some (.inl at_), some (.inl l), some (.inl (σ r_Nought0_forms (at_ + l))), some (.inl k)] [] (srl σ [(r_Nought0_forms, X)]) _
        refine wp_run 3 (pc' := 29) (ls' := [some (.inr (.inr (r_Nought0, 0))), some (.inl at_), some (.inl l), some (.inl (σ r_Nought0_forms (at_ + l))), some (.inl k)]) (st' := [.inl k, .inr (.inr (r_Nought0_reduced, 0))]) (σ' := srl σ [(r_Nought0_forms, X)]) rfl ?_
        refine wp_iald0 rfl rfl (by omega) ?_
        show en_wp k_X3_replace 30 [some (.inr (.inr (r_Nought0, 0))), some (.inl at_), some (.inl l), some (.inl (σ r_Nought0_forms (at_ + l))), some (.inl k)] [.inl (σ r_Nought0_reduced k)] (srl σ [(r_Nought0_forms, X)]) _
        have hr := gred k (by omega) (by omega)
        have hXk : X (at_ + k) = σ r_Nought0_forms (at_ + k) := by rw [hX]; exact seg_out (by omega)
        have hff := gfm (at_ + k)
        have hfp2 := gfp k (by omega) (by omega)
        have hm1 := m97 (a := σ r_Nought0_forms (at_ + l)) (b := σ r_Nought0_reduced k) hfl (by omega)
        refine wp_if_eq rfl (by omega) (fun h_2 => ?_) (fun h_2 => ?_)
        · have hXn : X = seg X (at_ + k) 1 (fun _ => (σ r_Nought0_forms (at_ + k) + σ r_Nought0_forms (at_ + l) * σ r_Nought0_reduced k) % p) := by
            funext x
            unfold seg
            split
            · rename_i h9
              rw [show x = at_ + k by omega, hXk, h_2, Int.mul_zero, Int.add_zero, Int.emod_eq_of_lt hfp2.1 hfp2.2]
            · rfl
          have hXm : X = seg (σ r_Nought0_forms) at_ (k + 1) (fun k => (σ r_Nought0_forms (at_ + k) + σ r_Nought0_forms (at_ + l) * σ r_Nought0_reduced k) % p) := by
            rw [hXn, hX, ← seg_up (v := (σ r_Nought0_forms (at_ + k) + σ r_Nought0_forms (at_ + l) * σ r_Nought0_reduced k) % p) hk.1 rfl]
            funext x
            unfold up seg
            by_cases h9 : x = at_ + k
            · rw [if_pos h9, if_pos (by omega)]
            · rw [if_neg h9, if_neg (by omega)]
          show en_wp k_X3_replace 68 [some (.inr (.inr (r_Nought0, 0))), some (.inl at_), some (.inl l), some (.inl (σ r_Nought0_forms (at_ + l))), some (.inl k)] [] (srl σ [(r_Nought0_forms, X)]) _
          refine wp_run 2 (pc' := 17) (ls' := [some (.inr (.inr (r_Nought0, 0))), some (.inl at_), some (.inl l), some (.inl (σ r_Nought0_forms (at_ + l))), some (.inl (k + 1))]) (st' := []) (σ' := srl σ [(r_Nought0_forms, X)]) rfl ?_
          exact ih_17 (k + 1) X (by omega) (by first | exact hXm | (rw [hXk, hX]; exact seg_up hk.1 rfl)) (by omega)
        · show en_wp k_X3_replace 33 [some (.inr (.inr (r_Nought0, 0))), some (.inl at_), some (.inl l), some (.inl (σ r_Nought0_forms (at_ + l))), some (.inl k)] [] (srl σ [(r_Nought0_forms, X)]) _
          refine wp_run 12 (pc' := 53) (ls' := [some (.inr (.inr (r_Nought0, 0))), some (.inl at_), some (.inl l), some (.inl (σ r_Nought0_forms (at_ + l))), some (.inl k)]) (st' := [.inl (at_ + k), .inr (.inr (r_Nought0_forms, 0)), .inr (.inr (r_Shape0, 0)), .inl (at_ + k), .inr (.inr (r_Nought0_forms, 0))]) (σ' := srl σ [(r_Nought0_forms, X)]) rfl ?_
          refine wp_iald0 rfl rfl (by omega) ?_
          show en_wp k_X3_replace 54 [some (.inr (.inr (r_Nought0, 0))), some (.inl at_), some (.inl l), some (.inl (σ r_Nought0_forms (at_ + l))), some (.inl k)] [.inl (X (at_ + k)), .inr (.inr (r_Shape0, 0)), .inl (at_ + k), .inr (.inr (r_Nought0_forms, 0))] (srl σ [(r_Nought0_forms, X)]) _
          refine wp_run 4 (pc' := 61) (ls' := [some (.inr (.inr (r_Nought0, 0))), some (.inl at_), some (.inl l), some (.inl (σ r_Nought0_forms (at_ + l))), some (.inl k)]) (st' := [.inl k, .inr (.inr (r_Nought0_reduced, 0)), .inl (σ r_Nought0_forms (at_ + l)), .inl (X (at_ + k)), .inr (.inr (r_Shape0, 0)), .inl (at_ + k), .inr (.inr (r_Nought0_forms, 0))]) (σ' := srl σ [(r_Nought0_forms, X)]) rfl ?_
          refine wp_iald0 rfl rfl (by omega) ?_
          show en_wp k_X3_replace 62 [some (.inr (.inr (r_Nought0, 0))), some (.inl at_), some (.inl l), some (.inl (σ r_Nought0_forms (at_ + l))), some (.inl k)] [.inl (σ r_Nought0_reduced k), .inl (σ r_Nought0_forms (at_ + l)), .inl (X (at_ + k)), .inr (.inr (r_Shape0, 0)), .inl (at_ + k), .inr (.inr (r_Nought0_forms, 0))] (srl σ [(r_Nought0_forms, X)]) _
          refine wp_run 2 (pc' := 64) (ls' := [some (.inr (.inr (r_Nought0, 0))), some (.inl at_), some (.inl l), some (.inl (σ r_Nought0_forms (at_ + l))), some (.inl k)]) (st' := [.inl ((X (at_ + k)) + ((σ r_Nought0_forms (at_ + l)) * (σ r_Nought0_reduced k))), .inr (.inr (r_Shape0, 0)), .inl (at_ + k), .inr (.inr (r_Nought0_forms, 0))]) (σ' := srl σ [(r_Nought0_forms, X)]) rfl ?_
          refine wp_fnv (v := .inl (((X (at_ + k)) + ((σ r_Nought0_forms (at_ + l)) * (σ r_Nought0_reduced k))) % p)) rfl rfl rfl rfl (ct_X5_rest_Shape0 (srl σ [(r_Nought0_forms, X)]) n D p ((X (at_ + k)) + ((σ r_Nought0_forms (at_ + l)) * (σ r_Nought0_reduced k))) hI (by omega)) ?_
          show en_wp k_X3_replace 67 [some (.inr (.inr (r_Nought0, 0))), some (.inl at_), some (.inl l), some (.inl (σ r_Nought0_forms (at_ + l))), some (.inl k)] [.inl (((X (at_ + k)) + ((σ r_Nought0_forms (at_ + l)) * (σ r_Nought0_reduced k))) % p), .inl (at_ + k), .inr (.inr (r_Nought0_forms, 0))] (srl σ [(r_Nought0_forms, X)]) _
          have q_3 : 0 ≤ ((X (at_ + k)) + ((σ r_Nought0_forms (at_ + l)) * (σ r_Nought0_reduced k))) % p ∧ ((X (at_ + k)) + ((σ r_Nought0_forms (at_ + l)) * (σ r_Nought0_reduced k))) % p < p := sR_lt hO.2.2.2
          refine wp_iast0 rfl rfl (by omega) (wp_wr (l2 := [(r_Nought0_forms, (up X (at_ + k) (((X (at_ + k)) + ((σ r_Nought0_forms (at_ + l)) * (σ r_Nought0_reduced k))) % p)))]) rfl ?_)
          show en_wp k_X3_replace 68 [some (.inr (.inr (r_Nought0, 0))), some (.inl at_), some (.inl l), some (.inl (σ r_Nought0_forms (at_ + l))), some (.inl k)] [] (srl σ [(r_Nought0_forms, (up X (at_ + k) (((X (at_ + k)) + ((σ r_Nought0_forms (at_ + l)) * (σ r_Nought0_reduced k))) % p)))]) _
          refine wp_run 2 (pc' := 17) (ls' := [some (.inr (.inr (r_Nought0, 0))), some (.inl at_), some (.inl l), some (.inl (σ r_Nought0_forms (at_ + l))), some (.inl (k + 1))]) (st' := []) (σ' := srl σ [(r_Nought0_forms, (up X (at_ + k) (((X (at_ + k)) + ((σ r_Nought0_forms (at_ + l)) * (σ r_Nought0_reduced k))) % p)))]) rfl ?_
          exact ih_17 (k + 1) (up X (at_ + k) (((X (at_ + k)) + ((σ r_Nought0_forms (at_ + l)) * (σ r_Nought0_reduced k))) % p)) (by omega) (by first | exact hXm | (rw [hXk, hX]; exact seg_up hk.1 rfl)) (by omega)
  refine wp_run 5 (pc' := 7) (ls' := [some (.inr (.inr (r_Nought0, 0))), some (.inl at_), some (.inl l), none, none]) (st' := [.inl (at_ + l), .inr (.inr (r_Nought0_forms, 0))]) (σ' := srl σ []) rfl ?_
  refine wp_iald0 rfl rfl (by omega) ?_
  show en_wp k_X3_replace 8 [some (.inr (.inr (r_Nought0, 0))), some (.inl at_), some (.inl l), none, none] [.inl (σ r_Nought0_forms (at_ + l))] (srl σ []) _
  refine wp_run 2 (pc' := 10) (ls' := [some (.inr (.inr (r_Nought0, 0))), some (.inl at_), some (.inl l), some (.inl (σ r_Nought0_forms (at_ + l))), none]) (st' := [.inl (σ r_Nought0_forms (at_ + l))]) (σ' := srl σ []) rfl ?_
  refine wp_if_ne rfl (by omega) (fun h_4 => ?_) (fun h_4 => ?_)
  · show en_wp k_X3_replace 14 [some (.inr (.inr (r_Nought0, 0))), some (.inl at_), some (.inl l), some (.inl (σ r_Nought0_forms (at_ + l))), none] [] (srl σ []) _
    refine wp_run 2 (pc' := 17) (ls' := [some (.inr (.inr (r_Nought0, 0))), some (.inl at_), some (.inl l), some (.inl (σ r_Nought0_forms (at_ + l))), some (.inl 0)]) (st' := []) (σ' := srl σ []) rfl ?_
    refine wp_mem (srl_eq (l' := [(r_Nought0_forms, (σ r_Nought0_forms))]) trivial (And.intro rfl trivial)) ?_
    exact L_17 _ 0 (σ r_Nought0_forms) (by omega) (seg_0 _ _ _).symm (Nat.lt_succ_self _)
  · show en_wp k_X3_replace 13 [some (.inr (.inr (r_Nought0, 0))), some (.inl at_), some (.inl l), some (.inl (σ r_Nought0_forms (at_ + l))), none] [] (srl σ []) _
    exact wp_vret rfl ⟨(σ r_Nought0_forms), rfl, srl_eq (l' := [(r_Nought0_forms, σ r_Nought0_forms)]) trivial (And.intro rfl trivial), (rp_same gfp (by assumption))⟩
theorem ct_J7_fill_53178_Nought1_row (σ : en_m) (v : Int) : en_ct z_J7_fill_53178 [.inr (.inr (r_Nought1_row, 0)), .inl v] σ (fun r σ' => r = none ∧ σ' = srl σ [(r_Nought1_row, (seg (σ r_Nought1_row) 0 256 (fun _ => v)))]) := by
  show en_wp k_J7_fill_53178 0 [some (.inr (.inr (r_Nought1_row, 0))), some (.inl v), none, none] [] (srl σ []) (fun r σ' => r = none ∧ σ' = srl σ [(r_Nought1_row, (seg (σ r_Nought1_row) 0 256 (fun _ => v)))])
  have L_5 : ∀ (N : Nat) (k : Int) (X : Int → Int), (0 ≤ k ∧ k ≤ 256) → (X = seg (σ r_Nought1_row) 0 k (fun _ => v)) → (256 - k).toNat < N → en_wp k_J7_fill_53178 5 [some (.inr (.inr (r_Nought1_row, 0))), some (.inl v), some (.inl k), some (.inl 256)] [] (srl σ [(r_Nought1_row, X)]) (fun r σ' => r = none ∧ σ' = srl σ [(r_Nought1_row, (seg (σ r_Nought1_row) 0 256 (fun _ => v)))]) := by
    intro N
    induction N with
    | zero => intro k X; intros; omega
    | succ N ih_5 =>
      intro k X hk hX hN_5
      refine wp_run 2 (pc' := 7) (ls' := [some (.inr (.inr (r_Nought1_row, 0))), some (.inl v), some (.inl k), some (.inl 256)]) (st' := [.inl 256, .inl k]) (σ' := srl σ [(r_Nought1_row, X)]) rfl ?_
      refine wp_ic_ge rfl (by omega) (by omega) (fun h_1 => ?_) (fun h_1 => ?_)
      · show en_wp k_J7_fill_53178 20 [some (.inr (.inr (r_Nought1_row, 0))), some (.inl v), some (.inl k), some (.inl 256)] [] (srl σ [(r_Nought1_row, X)]) _
        exact wp_vret rfl ⟨rfl, (by rw [hX, show k = 256 by omega])⟩
      · show en_wp k_J7_fill_53178 10 [some (.inr (.inr (r_Nought1_row, 0))), some (.inl v), some (.inl k), some (.inl 256)] [] (srl σ [(r_Nought1_row, X)]) _
        refine wp_run 3 (pc' := 13) (ls' := [some (.inr (.inr (r_Nought1_row, 0))), some (.inl v), some (.inl k), some (.inl 256)]) (st' := [.inl v, .inl k, .inr (.inr (r_Nought1_row, 0))]) (σ' := srl σ [(r_Nought1_row, X)]) rfl ?_
        refine wp_iast0 rfl rfl (by omega) (wp_wr (l2 := [(r_Nought1_row, (up X k v))]) rfl ?_)
        show en_wp k_J7_fill_53178 14 [some (.inr (.inr (r_Nought1_row, 0))), some (.inl v), some (.inl k), some (.inl 256)] [] (srl σ [(r_Nought1_row, (up X k v))]) _
        refine wp_run 2 (pc' := 5) (ls' := [some (.inr (.inr (r_Nought1_row, 0))), some (.inl v), some (.inl (k + 1)), some (.inl 256)]) (st' := []) (σ' := srl σ [(r_Nought1_row, (up X k v))]) rfl ?_
        exact ih_5 (k + 1) (up X k v) (by omega) (by rw [hX]; exact seg_up0 hk.1 rfl) (by omega)
  refine wp_run 5 (pc' := 5) (ls' := [some (.inr (.inr (r_Nought1_row, 0))), some (.inl v), some (.inl 0), some (.inl 256)]) (st' := []) (σ' := srl σ []) rfl ?_
  refine wp_mem (srl_eq (l' := [(r_Nought1_row, (σ r_Nought1_row))]) trivial (And.intro rfl trivial)) ?_
  exact L_5 _ 0 (σ r_Nought1_row) (by omega) (seg_0 _ _ _).symm (Nat.lt_succ_self _)
theorem ct_J7_fill_53178_Nought1_reduced (σ : en_m) (v : Int) : en_ct z_J7_fill_53178 [.inr (.inr (r_Nought1_reduced, 0)), .inl v] σ (fun r σ' => r = none ∧ σ' = srl σ [(r_Nought1_reduced, (seg (σ r_Nought1_reduced) 0 256 (fun _ => v)))]) := by
  show en_wp k_J7_fill_53178 0 [some (.inr (.inr (r_Nought1_reduced, 0))), some (.inl v), none, none] [] (srl σ []) (fun r σ' => r = none ∧ σ' = srl σ [(r_Nought1_reduced, (seg (σ r_Nought1_reduced) 0 256 (fun _ => v)))])
  have L_5 : ∀ (N : Nat) (k : Int) (X : Int → Int), (0 ≤ k ∧ k ≤ 256) → (X = seg (σ r_Nought1_reduced) 0 k (fun _ => v)) → (256 - k).toNat < N → en_wp k_J7_fill_53178 5 [some (.inr (.inr (r_Nought1_reduced, 0))), some (.inl v), some (.inl k), some (.inl 256)] [] (srl σ [(r_Nought1_reduced, X)]) (fun r σ' => r = none ∧ σ' = srl σ [(r_Nought1_reduced, (seg (σ r_Nought1_reduced) 0 256 (fun _ => v)))]) := by
    intro N
    induction N with
    | zero => intro k X; intros; omega
    | succ N ih_5 =>
      intro k X hk hX hN_5
      refine wp_run 2 (pc' := 7) (ls' := [some (.inr (.inr (r_Nought1_reduced, 0))), some (.inl v), some (.inl k), some (.inl 256)]) (st' := [.inl 256, .inl k]) (σ' := srl σ [(r_Nought1_reduced, X)]) rfl ?_
      refine wp_ic_ge rfl (by omega) (by omega) (fun h_1 => ?_) (fun h_1 => ?_)
      · show en_wp k_J7_fill_53178 20 [some (.inr (.inr (r_Nought1_reduced, 0))), some (.inl v), some (.inl k), some (.inl 256)] [] (srl σ [(r_Nought1_reduced, X)]) _
        exact wp_vret rfl ⟨rfl, (by rw [hX, show k = 256 by omega])⟩
      · show en_wp k_J7_fill_53178 10 [some (.inr (.inr (r_Nought1_reduced, 0))), some (.inl v), some (.inl k), some (.inl 256)] [] (srl σ [(r_Nought1_reduced, X)]) _
        refine wp_run 3 (pc' := 13) (ls' := [some (.inr (.inr (r_Nought1_reduced, 0))), some (.inl v), some (.inl k), some (.inl 256)]) (st' := [.inl v, .inl k, .inr (.inr (r_Nought1_reduced, 0))]) (σ' := srl σ [(r_Nought1_reduced, X)]) rfl ?_
        refine wp_iast0 rfl rfl (by omega) (wp_wr (l2 := [(r_Nought1_reduced, (up X k v))]) rfl ?_)
        show en_wp k_J7_fill_53178 14 [some (.inr (.inr (r_Nought1_reduced, 0))), some (.inl v), some (.inl k), some (.inl 256)] [] (srl σ [(r_Nought1_reduced, (up X k v))]) _
        refine wp_run 2 (pc' := 5) (ls' := [some (.inr (.inr (r_Nought1_reduced, 0))), some (.inl v), some (.inl (k + 1)), some (.inl 256)]) (st' := []) (σ' := srl σ [(r_Nought1_reduced, (up X k v))]) rfl ?_
        exact ih_5 (k + 1) (up X k v) (by omega) (by rw [hX]; exact seg_up0 hk.1 rfl) (by omega)
  refine wp_run 5 (pc' := 5) (ls' := [some (.inr (.inr (r_Nought1_reduced, 0))), some (.inl v), some (.inl 0), some (.inl 256)]) (st' := []) (σ' := srl σ []) rfl ?_
  refine wp_mem (srl_eq (l' := [(r_Nought1_reduced, (σ r_Nought1_reduced))]) trivial (And.intro rfl trivial)) ?_
  exact L_5 _ 0 (σ r_Nought1_reduced) (by omega) (seg_0 _ _ _).symm (Nat.lt_succ_self _)
theorem ct_X3_hasWord_Nought1 (σ : en_m) (n : Int) (D : Int) (p : Int) (d : Int) (w : Int) (hI : cS0 σ n D p) (h1 : i32 d) (h2 : i32 w) : en_fn z_X3_hasWord [.inr (.inr (r_Nought1, 0)), .inl d, .inl w] σ (.inl (bI (0 ≤ w ∧ w < sW n D d))) := by
  show en_wp k_X3_hasWord 0 [some (.inr (.inr (r_Nought1, 0))), some (.inl d), some (.inl w)] [] (srl σ []) (fun r σ' => r = some (.inl (bI (0 ≤ w ∧ w < sW n D d))) ∧ σ' = σ)
  have hI2 := hI
  obtain ⟨hO, hn, hD, hp, hm, hst, hln⟩ := hI2
  obtain ⟨⟨hO1, hO2⟩, ⟨hO3, hO4⟩, hO5, hO6, hO7, hO8⟩ := id hO
  refine wp_run 1 (pc' := 1) (ls' := [some (.inr (.inr (r_Nought1, 0))), some (.inl d), some (.inl w)]) (st' := [.inl w]) (σ' := srl σ []) rfl ?_
  refine wp_if_lt rfl (by omega) (fun h_1 => ?_) (fun h_1 => ?_)
  · show en_wp k_X3_hasWord 20 [some (.inr (.inr (r_Nought1, 0))), some (.inl d), some (.inl w)] [] (srl σ []) _
    refine wp_run 1 (pc' := 21) (ls' := [some (.inr (.inr (r_Nought1, 0))), some (.inl d), some (.inl w)]) (st' := [.inl 0]) (σ' := srl σ []) rfl ?_
    exact wp_zret rfl (.inl rfl) ⟨(by first | rw [bI_t (by omega)] | rw [bI_f (by omega)]), rfl⟩
  · show en_wp k_X3_hasWord 4 [some (.inr (.inr (r_Nought1, 0))), some (.inl d), some (.inl w)] [] (srl σ []) _
    refine wp_run 4 (pc' := 10) (ls' := [some (.inr (.inr (r_Nought1, 0))), some (.inl d), some (.inl w)]) (st' := [.inl d, .inr (.inr (r_Shape0, 0)), .inl w]) (σ' := srl σ []) rfl ?_
    refine wp_fnv (v := .inl (sW n D d)) rfl rfl rfl rfl (ct_X5_wordsOf_Shape0 σ n D p d hI (by omega)) ?_
    show en_wp k_X3_hasWord 13 [some (.inr (.inr (r_Nought1, 0))), some (.inl d), some (.inl w)] [.inl (sW n D d), .inl w] (srl σ []) _
    have q_2 : 0 ≤ sW n D d ∧ sW n D d ≤ 256 := sW_b hO
    refine wp_ic_ge rfl (by omega) (by omega) (fun h_3 => ?_) (fun h_3 => ?_)
    · show en_wp k_X3_hasWord 20 [some (.inr (.inr (r_Nought1, 0))), some (.inl d), some (.inl w)] [] (srl σ []) _
      refine wp_run 1 (pc' := 21) (ls' := [some (.inr (.inr (r_Nought1, 0))), some (.inl d), some (.inl w)]) (st' := [.inl 0]) (σ' := srl σ []) rfl ?_
      exact wp_zret rfl (.inl rfl) ⟨(by first | rw [bI_t (by omega)] | rw [bI_f (by omega)]), rfl⟩
    · show en_wp k_X3_hasWord 16 [some (.inr (.inr (r_Nought1, 0))), some (.inl d), some (.inl w)] [] (srl σ []) _
      refine wp_run 2 (pc' := 21) (ls' := [some (.inr (.inr (r_Nought1, 0))), some (.inl d), some (.inl w)]) (st' := [.inl 1]) (σ' := srl σ []) rfl ?_
      exact wp_zret rfl (.inr rfl) ⟨(by first | rw [bI_t (by omega)] | rw [bI_f (by omega)]), rfl⟩
theorem ct_X3_leads_Nought1 (σ : en_m) (n : Int) (D : Int) (p : Int) (d : Int) (w : Int) (hI : cS0 σ n D p) (gd : 0 ≤ d ∧ d ≤ D) (gw : 0 ≤ w ∧ w < sW n D d) (g01 : R01 ((σ r_Nought1_leading))) : en_fn z_X3_leads [.inr (.inr (r_Nought1, 0)), .inl d, .inl w] σ (.inl (bI (¬ (σ r_Nought1_leading) (sS n D d + w) = 0))) := by
  show en_wp k_X3_leads 0 [some (.inr (.inr (r_Nought1, 0))), some (.inl d), some (.inl w), none] [] (srl σ []) (fun r σ' => r = some (.inl (bI (¬ (σ r_Nought1_leading) (sS n D d + w) = 0))) ∧ σ' = σ)
  have hI2 := hI
  obtain ⟨hO, hn, hD, hp, hm, hst, hln⟩ := hI2
  obtain ⟨⟨hO1, hO2⟩, ⟨hO3, hO4⟩, hO5, hO6, hO7, hO8⟩ := id hO
  refine wp_run 3 (pc' := 5) (ls' := [some (.inr (.inr (r_Nought1, 0))), some (.inl d), some (.inl w), none]) (st' := [.inl d, .inr (.inr (r_Shape0, 0))]) (σ' := srl σ []) rfl ?_
  refine wp_fnv (v := .inl (sS n D d)) rfl rfl rfl rfl (ct_X5_startOf_Shape0_p σ n D p d hI (by omega)) ?_
  show en_wp k_X3_leads 8 [some (.inr (.inr (r_Nought1, 0))), some (.inl d), some (.inl w), none] [.inl (sS n D d)] (srl σ []) _
  have q_1 : 0 ≤ sS n D d ∧ sS n D d ≤ 364 := sS_b hO
  refine wp_run 4 (pc' := 12) (ls' := [some (.inr (.inr (r_Nought1, 0))), some (.inl d), some (.inl w), some (.inl ((sS n D d) + w))]) (st' := [.inl ((sS n D d) + w)]) (σ' := srl σ []) rfl ?_
  have hq := sS_word hO gd.1 gw
  have h01 := g01 (sS n D d + w)
  refine wp_if_lt rfl (by omega) (fun h_2 => ?_) (fun h_2 => ?_)
  · exfalso; omega
  · show en_wp k_X3_leads 15 [some (.inr (.inr (r_Nought1, 0))), some (.inl d), some (.inl w), some (.inl ((sS n D d) + w))] [] (srl σ []) _
    refine wp_run 2 (pc' := 19) (ls' := [some (.inr (.inr (r_Nought1, 0))), some (.inl d), some (.inl w), some (.inl ((sS n D d) + w))]) (st' := [.inl 364, .inl ((sS n D d) + w)]) (σ' := srl σ []) rfl ?_
    refine wp_ic_ge rfl (by omega) (by omega) (fun h_3 => ?_) (fun h_3 => ?_)
    · exfalso; omega
    · show en_wp k_X3_leads 22 [some (.inr (.inr (r_Nought1, 0))), some (.inl d), some (.inl w), some (.inl ((sS n D d) + w))] [] (srl σ []) _
      refine wp_run 3 (pc' := 27) (ls' := [some (.inr (.inr (r_Nought1, 0))), some (.inl d), some (.inl w), some (.inl ((sS n D d) + w))]) (st' := [.inl ((sS n D d) + w), .inr (.inr (r_Nought1_leading, 0))]) (σ' := srl σ []) rfl ?_
      refine wp_bald0 rfl (.inl rfl) (by omega) ?_
      show en_wp k_X3_leads 28 [some (.inr (.inr (r_Nought1, 0))), some (.inl d), some (.inl w), some (.inl ((sS n D d) + w))] [.inl (σ r_Nought1_leading ((sS n D d) + w))] (srl σ []) _
      refine wp_if_eq rfl (by omega) (fun h_4 => ?_) (fun h_4 => ?_)
      · show en_wp k_X3_leads 35 [some (.inr (.inr (r_Nought1, 0))), some (.inl d), some (.inl w), some (.inl ((sS n D d) + w))] [] (srl σ []) _
        refine wp_run 1 (pc' := 36) (ls' := [some (.inr (.inr (r_Nought1, 0))), some (.inl d), some (.inl w), some (.inl ((sS n D d) + w))]) (st' := [.inl 0]) (σ' := srl σ []) rfl ?_
        exact wp_zret rfl (.inl rfl) ⟨(by first | rw [bI_t (by omega)] | rw [bI_f (by omega)]), rfl⟩
      · show en_wp k_X3_leads 31 [some (.inr (.inr (r_Nought1, 0))), some (.inl d), some (.inl w), some (.inl ((sS n D d) + w))] [] (srl σ []) _
        refine wp_run 2 (pc' := 36) (ls' := [some (.inr (.inr (r_Nought1, 0))), some (.inl d), some (.inl w), some (.inl ((sS n D d) + w))]) (st' := [.inl 1]) (σ' := srl σ []) rfl ?_
        exact wp_zret rfl (.inr rfl) ⟨(by first | rw [bI_t (by omega)] | rw [bI_f (by omega)]), rfl⟩
theorem ct_X3_leadsAnew_Nought1 (σ : en_m) (n : Int) (D : Int) (p : Int) (d : Int) (w : Int) (hI : cS0 σ n D p) (gd : 0 ≤ d ∧ d ≤ D) (gw : 0 ≤ w ∧ w < sW n D d) (g01 : R01 ((σ r_Nought1_leading))) : en_fn z_X3_leadsAnew [.inr (.inr (r_Nought1, 0)), .inl d, .inl w] σ (.inl (bI (1 ≤ d ∧ ¬ (σ r_Nought1_leading) (sS n D d + w) = 0 ∧ (σ r_Nought1_leading) (sS n D (d - 1) + w % sW n D (d - 1)) = 0))) := by
  show en_wp k_X3_leadsAnew 0 [some (.inr (.inr (r_Nought1, 0))), some (.inl d), some (.inl w)] [] (srl σ []) (fun r σ' => r = some (.inl (bI (1 ≤ d ∧ ¬ (σ r_Nought1_leading) (sS n D d + w) = 0 ∧ (σ r_Nought1_leading) (sS n D (d - 1) + w % sW n D (d - 1)) = 0))) ∧ σ' = σ)
  have hI2 := hI
  obtain ⟨hO, hn, hD, hp, hm, hst, hln⟩ := hI2
  obtain ⟨⟨hO1, hO2⟩, ⟨hO3, hO4⟩, hO5, hO6, hO7, hO8⟩ := id hO
  have hq1 : 1 ≤ d → 0 < sW n D (d - 1) := fun _ => sW_p hO (by omega) (show d - 1 ≤ d by omega) gw
  have hwb := sW_b (k := d) hO
  refine wp_run 1 (pc' := 1) (ls' := [some (.inr (.inr (r_Nought1, 0))), some (.inl d), some (.inl w)]) (st' := [.inl d]) (σ' := srl σ []) rfl ?_
  refine wp_if_le rfl (by omega) (fun h_1 => ?_) (fun h_1 => ?_)
  · show en_wp k_X3_leadsAnew 38 [some (.inr (.inr (r_Nought1, 0))), some (.inl d), some (.inl w)] [] (srl σ []) _
    refine wp_run 1 (pc' := 39) (ls' := [some (.inr (.inr (r_Nought1, 0))), some (.inl d), some (.inl w)]) (st' := [.inl 0]) (σ' := srl σ []) rfl ?_
    exact wp_zret rfl (.inl rfl) ⟨(by first | rw [bI_t (by omega)] | rw [bI_f (by omega)]), rfl⟩
  · show en_wp k_X3_leadsAnew 4 [some (.inr (.inr (r_Nought1, 0))), some (.inl d), some (.inl w)] [] (srl σ []) _
    refine wp_run 3 (pc' := 7) (ls' := [some (.inr (.inr (r_Nought1, 0))), some (.inl d), some (.inl w)]) (st' := [.inl w, .inl d, .inr (.inr (r_Nought1, 0))]) (σ' := srl σ []) rfl ?_
    refine wp_fnv (v := .inl (bI (¬ (σ r_Nought1_leading) (sS n D d + w) = 0))) rfl rfl rfl rfl (ct_X3_leads_Nought1 σ n D p d w hI (by omega) (by omega) g01) ?_
    show en_wp k_X3_leadsAnew 10 [some (.inr (.inr (r_Nought1, 0))), some (.inl d), some (.inl w)] [.inl (bI (¬ (σ r_Nought1_leading) (sS n D d + w) = 0))] (srl σ []) _
    refine wp_if_eqb rfl (fun h_2 => ?_) (fun h_2 => ?_)
    · show en_wp k_X3_leadsAnew 38 [some (.inr (.inr (r_Nought1, 0))), some (.inl d), some (.inl w)] [] (srl σ []) _
      refine wp_run 1 (pc' := 39) (ls' := [some (.inr (.inr (r_Nought1, 0))), some (.inl d), some (.inl w)]) (st' := [.inl 0]) (σ' := srl σ []) rfl ?_
      exact wp_zret rfl (.inl rfl) ⟨(by first | rw [bI_t (by omega)] | rw [bI_f (by omega)]), rfl⟩
    · show en_wp k_X3_leadsAnew 13 [some (.inr (.inr (r_Nought1, 0))), some (.inl d), some (.inl w)] [] (srl σ []) _
      refine wp_run 10 (pc' := 25) (ls' := [some (.inr (.inr (r_Nought1, 0))), some (.inl d), some (.inl w)]) (st' := [.inl (d - 1), .inl w, .inr (.inr (r_Shape0, 0)), .inl (d - 1), .inr (.inr (r_Nought1, 0))]) (σ' := srl σ []) rfl ?_
      refine wp_fnv (v := .inl (w % sW n D (d - 1))) rfl rfl rfl rfl (ct_X5_tailOf_Shape0_p σ n D p w (d - 1) hI (by omega) (by omega) (by omega)) ?_
      show en_wp k_X3_leadsAnew 28 [some (.inr (.inr (r_Nought1, 0))), some (.inl d), some (.inl w)] [.inl (w % sW n D (d - 1)), .inl (d - 1), .inr (.inr (r_Nought1, 0))] (srl σ []) _
      have q_3 : 0 ≤ w % sW n D (d - 1) ∧ w % sW n D (d - 1) < sW n D (d - 1) := ⟨Int.emod_nonneg _ (by omega), Int.emod_lt_of_pos _ (by omega)⟩
      refine wp_fnv (v := .inl (bI (¬ (σ r_Nought1_leading) (sS n D (d - 1) + (w % sW n D (d - 1))) = 0))) rfl rfl rfl rfl (ct_X3_leads_Nought1 σ n D p (d - 1) (w % sW n D (d - 1)) hI (by omega) (by omega) g01) ?_
      show en_wp k_X3_leadsAnew 31 [some (.inr (.inr (r_Nought1, 0))), some (.inl d), some (.inl w)] [.inl (bI (¬ (σ r_Nought1_leading) (sS n D (d - 1) + (w % sW n D (d - 1))) = 0))] (srl σ []) _
      refine wp_if_neb rfl (fun h_4 => ?_) (fun h_4 => ?_)
      · show en_wp k_X3_leadsAnew 38 [some (.inr (.inr (r_Nought1, 0))), some (.inl d), some (.inl w)] [] (srl σ []) _
        refine wp_run 1 (pc' := 39) (ls' := [some (.inr (.inr (r_Nought1, 0))), some (.inl d), some (.inl w)]) (st' := [.inl 0]) (σ' := srl σ []) rfl ?_
        exact wp_zret rfl (.inl rfl) ⟨(by first | rw [bI_t (by omega)] | rw [bI_f (by omega)]), rfl⟩
      · show en_wp k_X3_leadsAnew 34 [some (.inr (.inr (r_Nought1, 0))), some (.inl d), some (.inl w)] [] (srl σ []) _
        refine wp_run 2 (pc' := 39) (ls' := [some (.inr (.inr (r_Nought1, 0))), some (.inl d), some (.inl w)]) (st' := [.inl 1]) (σ' := srl σ []) rfl ?_
        exact wp_zret rfl (.inr rfl) ⟨(by first | rw [bI_t (by omega)] | rw [bI_f (by omega)]), rfl⟩
theorem ct_X3_isLeading_Nought1 (σ : en_m) (n : Int) (D : Int) (p : Int) (d : Int) (w : Int) (hI : cS0 σ n D p) (h1 : 0 ≤ d ∧ d ≤ 8) (h2 : i32 w) (g01 : R01 ((σ r_Nought1_leading))) : en_fn z_X3_isLeading [.inr (.inr (r_Nought1, 0)), .inl d, .inl w] σ (.inl (bI ((0 ≤ w ∧ w < sW n D d) ∧ ¬ (σ r_Nought1_leading) (sS n D d + w) = 0))) := by
  show en_wp k_X3_isLeading 0 [some (.inr (.inr (r_Nought1, 0))), some (.inl d), some (.inl w)] [] (srl σ []) (fun r σ' => r = some (.inl (bI ((0 ≤ w ∧ w < sW n D d) ∧ ¬ (σ r_Nought1_leading) (sS n D d + w) = 0))) ∧ σ' = σ)
  have hI2 := hI
  obtain ⟨hO, hn, hD, hp, hm, hst, hln⟩ := hI2
  obtain ⟨⟨hO1, hO2⟩, ⟨hO3, hO4⟩, hO5, hO6, hO7, hO8⟩ := id hO
  refine wp_run 3 (pc' := 3) (ls' := [some (.inr (.inr (r_Nought1, 0))), some (.inl d), some (.inl w)]) (st' := [.inl w, .inl d, .inr (.inr (r_Nought1, 0))]) (σ' := srl σ []) rfl ?_
  refine wp_fnv (v := .inl (bI (0 ≤ w ∧ w < sW n D d))) rfl rfl rfl rfl (ct_X3_hasWord_Nought1 σ n D p d w hI (by omega) (by omega)) ?_
  show en_wp k_X3_isLeading 6 [some (.inr (.inr (r_Nought1, 0))), some (.inl d), some (.inl w)] [.inl (bI (0 ≤ w ∧ w < sW n D d))] (srl σ []) _
  refine wp_if_eqb rfl (fun h_1 => ?_) (fun h_1 => ?_)
  · show en_wp k_X3_isLeading 22 [some (.inr (.inr (r_Nought1, 0))), some (.inl d), some (.inl w)] [] (srl σ []) _
    refine wp_run 1 (pc' := 23) (ls' := [some (.inr (.inr (r_Nought1, 0))), some (.inl d), some (.inl w)]) (st' := [.inl 0]) (σ' := srl σ []) rfl ?_
    exact wp_zret rfl (.inl rfl) ⟨(by first | rw [bI_t (by omega)] | rw [bI_f (by omega)]), rfl⟩
  · show en_wp k_X3_isLeading 9 [some (.inr (.inr (r_Nought1, 0))), some (.inl d), some (.inl w)] [] (srl σ []) _
    refine wp_run 3 (pc' := 12) (ls' := [some (.inr (.inr (r_Nought1, 0))), some (.inl d), some (.inl w)]) (st' := [.inl w, .inl d, .inr (.inr (r_Nought1, 0))]) (σ' := srl σ []) rfl ?_
    have hdD : d ≤ D := by
      rcases Int.lt_or_le D d with h9 | h9
      · have h8 := @sW_big n D d h9
        omega
      · exact h9
    refine wp_fnv (v := .inl (bI (¬ (σ r_Nought1_leading) (sS n D d + w) = 0))) rfl rfl rfl rfl (ct_X3_leads_Nought1 σ n D p d w hI (by omega) (by omega) g01) ?_
    show en_wp k_X3_isLeading 15 [some (.inr (.inr (r_Nought1, 0))), some (.inl d), some (.inl w)] [.inl (bI (¬ (σ r_Nought1_leading) (sS n D d + w) = 0))] (srl σ []) _
    refine wp_if_eqb rfl (fun h_2 => ?_) (fun h_2 => ?_)
    · show en_wp k_X3_isLeading 22 [some (.inr (.inr (r_Nought1, 0))), some (.inl d), some (.inl w)] [] (srl σ []) _
      refine wp_run 1 (pc' := 23) (ls' := [some (.inr (.inr (r_Nought1, 0))), some (.inl d), some (.inl w)]) (st' := [.inl 0]) (σ' := srl σ []) rfl ?_
      exact wp_zret rfl (.inl rfl) ⟨(by first | rw [bI_t (by omega)] | rw [bI_f (by omega)]), rfl⟩
    · show en_wp k_X3_isLeading 18 [some (.inr (.inr (r_Nought1, 0))), some (.inl d), some (.inl w)] [] (srl σ []) _
      refine wp_run 2 (pc' := 23) (ls' := [some (.inr (.inr (r_Nought1, 0))), some (.inl d), some (.inl w)]) (st' := [.inl 1]) (σ' := srl σ []) rfl ?_
      exact wp_zret rfl (.inr rfl) ⟨(by first | rw [bI_t (by omega)] | rw [bI_f (by omega)]), rfl⟩
theorem ct_X3_isBasic_Nought1 (σ : en_m) (n : Int) (D : Int) (p : Int) (d : Int) (w : Int) (hI : cS0 σ n D p) (h1 : 0 ≤ d ∧ d ≤ 8) (h2 : i32 w) (g01 : R01 ((σ r_Nought1_leading))) : en_fn z_X3_isBasic [.inr (.inr (r_Nought1, 0)), .inl d, .inl w] σ (.inl (bI ((0 ≤ w ∧ w < sW n D d) ∧ 1 ≤ d ∧ ¬ (σ r_Nought1_leading) (sS n D d + w) = 0 ∧ (σ r_Nought1_leading) (sS n D (d - 1) + w % sW n D (d - 1)) = 0 ∧ (σ r_Nought1_leading) (sS n D (d - 1) + w / sW n D 1) = 0))) := by
  show en_wp k_X3_isBasic 0 [some (.inr (.inr (r_Nought1, 0))), some (.inl d), some (.inl w)] [] (srl σ []) (fun r σ' => r = some (.inl (bI ((0 ≤ w ∧ w < sW n D d) ∧ 1 ≤ d ∧ ¬ (σ r_Nought1_leading) (sS n D d + w) = 0 ∧ (σ r_Nought1_leading) (sS n D (d - 1) + w % sW n D (d - 1)) = 0 ∧ (σ r_Nought1_leading) (sS n D (d - 1) + w / sW n D 1) = 0))) ∧ σ' = σ)
  have hI2 := hI
  obtain ⟨hO, hn, hD, hp, hm, hst, hln⟩ := hI2
  obtain ⟨⟨hO1, hO2⟩, ⟨hO3, hO4⟩, hO5, hO6, hO7, hO8⟩ := id hO
  have hdD : 0 ≤ w ∧ w < sW n D d → d ≤ D := fun _ => by
    rcases Int.lt_or_le D d with h9 | h9
    · have h8 := @sW_big n D d h9
      omega
    · exact h9
  have hq1 : (0 ≤ w ∧ w < sW n D d) → 1 ≤ d → 0 < sW n D (d - 1) ∧ 0 < sW n D 1 := fun gw _ => ⟨sW_p hO (by omega) (show d - 1 ≤ d by omega) gw, sW_p hO (by omega) (by omega) gw⟩
  have hwb := sW_b (k := d) hO
  refine wp_run 3 (pc' := 3) (ls' := [some (.inr (.inr (r_Nought1, 0))), some (.inl d), some (.inl w)]) (st' := [.inl w, .inl d, .inr (.inr (r_Nought1, 0))]) (σ' := srl σ []) rfl ?_
  refine wp_fnv (v := .inl (bI (0 ≤ w ∧ w < sW n D d))) rfl rfl rfl rfl (ct_X3_hasWord_Nought1 σ n D p d w hI (by omega) (by omega)) ?_
  show en_wp k_X3_isBasic 6 [some (.inr (.inr (r_Nought1, 0))), some (.inl d), some (.inl w)] [.inl (bI (0 ≤ w ∧ w < sW n D d))] (srl σ []) _
  refine wp_if_eqb rfl (fun h_1 => ?_) (fun h_1 => ?_)
  · show en_wp k_X3_isBasic 41 [some (.inr (.inr (r_Nought1, 0))), some (.inl d), some (.inl w)] [] (srl σ []) _
    refine wp_run 1 (pc' := 42) (ls' := [some (.inr (.inr (r_Nought1, 0))), some (.inl d), some (.inl w)]) (st' := [.inl 0]) (σ' := srl σ []) rfl ?_
    exact wp_zret rfl (.inl rfl) ⟨(by first | rw [bI_t (by omega)] | rw [bI_f (by omega)]), rfl⟩
  · show en_wp k_X3_isBasic 9 [some (.inr (.inr (r_Nought1, 0))), some (.inl d), some (.inl w)] [] (srl σ []) _
    refine wp_run 3 (pc' := 12) (ls' := [some (.inr (.inr (r_Nought1, 0))), some (.inl d), some (.inl w)]) (st' := [.inl w, .inl d, .inr (.inr (r_Nought1, 0))]) (σ' := srl σ []) rfl ?_
    refine wp_fnv (v := .inl (bI (1 ≤ d ∧ ¬ (σ r_Nought1_leading) (sS n D d + w) = 0 ∧ (σ r_Nought1_leading) (sS n D (d - 1) + w % sW n D (d - 1)) = 0))) rfl rfl rfl rfl (ct_X3_leadsAnew_Nought1 σ n D p d w hI (by omega) (by omega) g01) ?_
    show en_wp k_X3_isBasic 15 [some (.inr (.inr (r_Nought1, 0))), some (.inl d), some (.inl w)] [.inl (bI (1 ≤ d ∧ ¬ (σ r_Nought1_leading) (sS n D d + w) = 0 ∧ (σ r_Nought1_leading) (sS n D (d - 1) + w % sW n D (d - 1)) = 0))] (srl σ []) _
    refine wp_if_eqb rfl (fun h_2 => ?_) (fun h_2 => ?_)
    · show en_wp k_X3_isBasic 41 [some (.inr (.inr (r_Nought1, 0))), some (.inl d), some (.inl w)] [] (srl σ []) _
      refine wp_run 1 (pc' := 42) (ls' := [some (.inr (.inr (r_Nought1, 0))), some (.inl d), some (.inl w)]) (st' := [.inl 0]) (σ' := srl σ []) rfl ?_
      exact wp_zret rfl (.inl rfl) ⟨(by first | rw [bI_t (by omega)] | rw [bI_f (by omega)]), rfl⟩
    · show en_wp k_X3_isBasic 18 [some (.inr (.inr (r_Nought1, 0))), some (.inl d), some (.inl w)] [] (srl σ []) _
      refine wp_run 8 (pc' := 28) (ls' := [some (.inr (.inr (r_Nought1, 0))), some (.inl d), some (.inl w)]) (st' := [.inl 1, .inl w, .inr (.inr (r_Shape0, 0)), .inl (d - 1), .inr (.inr (r_Nought1, 0))]) (σ' := srl σ []) rfl ?_
      refine wp_fnv (v := .inl (w / sW n D 1)) rfl rfl rfl rfl (ct_X5_headOf_Shape0_p σ n D p w 1 hI (by omega) (by omega) (by omega)) ?_
      show en_wp k_X3_isBasic 31 [some (.inr (.inr (r_Nought1, 0))), some (.inl d), some (.inl w)] [.inl (w / sW n D 1), .inl (d - 1), .inr (.inr (r_Nought1, 0))] (srl σ []) _
      have q_3 : 0 ≤ w / sW n D 1 := Int.ediv_nonneg (by omega) (by omega)
      have hhd : w / sW n D 1 < sW n D (d - 1) := by
        refine Int.ediv_lt_of_lt_mul (by omega) ?_
        rw [← sW_add (by omega) (by omega) (by omega), show d - 1 + 1 = d by omega]
        omega
      refine wp_fnv (v := .inl (bI (¬ (σ r_Nought1_leading) (sS n D (d - 1) + (w / sW n D 1)) = 0))) rfl rfl rfl rfl (ct_X3_leads_Nought1 σ n D p (d - 1) (w / sW n D 1) hI (by omega) (by omega) g01) ?_
      show en_wp k_X3_isBasic 34 [some (.inr (.inr (r_Nought1, 0))), some (.inl d), some (.inl w)] [.inl (bI (¬ (σ r_Nought1_leading) (sS n D (d - 1) + (w / sW n D 1)) = 0))] (srl σ []) _
      refine wp_if_neb rfl (fun h_4 => ?_) (fun h_4 => ?_)
      · show en_wp k_X3_isBasic 41 [some (.inr (.inr (r_Nought1, 0))), some (.inl d), some (.inl w)] [] (srl σ []) _
        refine wp_run 1 (pc' := 42) (ls' := [some (.inr (.inr (r_Nought1, 0))), some (.inl d), some (.inl w)]) (st' := [.inl 0]) (σ' := srl σ []) rfl ?_
        exact wp_zret rfl (.inl rfl) ⟨(by first | rw [bI_t (by omega)] | rw [bI_f (by omega)]), rfl⟩
      · show en_wp k_X3_isBasic 37 [some (.inr (.inr (r_Nought1, 0))), some (.inl d), some (.inl w)] [] (srl σ []) _
        refine wp_run 2 (pc' := 42) (ls' := [some (.inr (.inr (r_Nought1, 0))), some (.inl d), some (.inl w)]) (st' := [.inl 1]) (σ' := srl σ []) rfl ?_
        exact wp_zret rfl (.inr rfl) ⟨(by first | rw [bI_t (by omega)] | rw [bI_f (by omega)]), rfl⟩
theorem ct_X3_formAt_Nought1 (σ : en_m) (n : Int) (D : Int) (p : Int) (d : Int) (o : Int) (k : Int) (hI : cS0 σ n D p) (gd : 0 ≤ d ∧ d ≤ D) (gst : (σ r_Nought1_formStart) d = sQ n D d) (go : 0 ≤ o ∧ o < sW n D d) (gk : 0 ≤ k ∧ k < sW n D d) : en_fn z_X3_formAt [.inr (.inr (r_Nought1, 0)), .inl d, .inl o, .inl k] σ (.inl ((σ r_Nought1_forms) (sQ n D d + o * sW n D d + k))) := by
  show en_wp k_X3_formAt 0 [some (.inr (.inr (r_Nought1, 0))), some (.inl d), some (.inl o), some (.inl k), none] [] (srl σ []) (fun r σ' => r = some (.inl ((σ r_Nought1_forms) (sQ n D d + o * sW n D d + k))) ∧ σ' = σ)
  have hI2 := hI
  obtain ⟨hO, hn, hD, hp, hm, hst, hln⟩ := hI2
  obtain ⟨⟨hO1, hO2⟩, ⟨hO3, hO4⟩, hO5, hO6, hO7, hO8⟩ := id hO
  refine wp_run 3 (pc' := 5) (ls' := [some (.inr (.inr (r_Nought1, 0))), some (.inl d), some (.inl o), some (.inl k), none]) (st' := [.inl d, .inr (.inr (r_Nought1_formStart, 0))]) (σ' := srl σ []) rfl ?_
  refine wp_iald0 rfl rfl (by omega) ?_
  show en_wp k_X3_formAt 6 [some (.inr (.inr (r_Nought1, 0))), some (.inl d), some (.inl o), some (.inl k), none] [.inl (σ r_Nought1_formStart d)] (srl σ []) _
  refine wp_run 4 (pc' := 12) (ls' := [some (.inr (.inr (r_Nought1, 0))), some (.inl d), some (.inl o), some (.inl k), none]) (st' := [.inl d, .inr (.inr (r_Shape0, 0)), .inl o, .inl (σ r_Nought1_formStart d)]) (σ' := srl σ []) rfl ?_
  refine wp_fnv (v := .inl (sW n D d)) rfl rfl rfl rfl (ct_X5_wordsOf_Shape0 σ n D p d hI (by omega)) ?_
  show en_wp k_X3_formAt 15 [some (.inr (.inr (r_Nought1, 0))), some (.inl d), some (.inl o), some (.inl k), none] [.inl (sW n D d), .inl o, .inl (σ r_Nought1_formStart d)] (srl σ []) _
  have q_1 : 0 ≤ sW n D d ∧ sW n D d ≤ 256 := sW_b hO
  refine wp_run 6 (pc' := 23) (ls' := [some (.inr (.inr (r_Nought1, 0))), some (.inl d), some (.inl o), some (.inl k), some (.inl (((σ r_Nought1_formStart d) + (o * (sW n D d))) + k))]) (st' := [.inl (((σ r_Nought1_formStart d) + (o * (sW n D d))) + k)]) (σ' := srl σ []) rfl ?_
  have hat := sQ_in hO gd.1 go gk
  rw [← gst] at hat
  refine wp_if_lt rfl (by omega) (fun h_2 => ?_) (fun h_2 => ?_)
  · exfalso; omega
  · show en_wp k_X3_formAt 26 [some (.inr (.inr (r_Nought1, 0))), some (.inl d), some (.inl o), some (.inl k), some (.inl (((σ r_Nought1_formStart d) + (o * (sW n D d))) + k))] [] (srl σ []) _
    refine wp_run 2 (pc' := 30) (ls' := [some (.inr (.inr (r_Nought1, 0))), some (.inl d), some (.inl o), some (.inl k), some (.inl (((σ r_Nought1_formStart d) + (o * (sW n D d))) + k))]) (st' := [.inl 69905, .inl (((σ r_Nought1_formStart d) + (o * (sW n D d))) + k)]) (σ' := srl σ []) rfl ?_
    refine wp_ic_ge rfl (by omega) (by omega) (fun h_3 => ?_) (fun h_3 => ?_)
    · exfalso; omega
    · show en_wp k_X3_formAt 33 [some (.inr (.inr (r_Nought1, 0))), some (.inl d), some (.inl o), some (.inl k), some (.inl (((σ r_Nought1_formStart d) + (o * (sW n D d))) + k))] [] (srl σ []) _
      refine wp_run 3 (pc' := 39) (ls' := [some (.inr (.inr (r_Nought1, 0))), some (.inl d), some (.inl o), some (.inl k), some (.inl (((σ r_Nought1_formStart d) + (o * (sW n D d))) + k))]) (st' := [.inl (((σ r_Nought1_formStart d) + (o * (sW n D d))) + k), .inr (.inr (r_Nought1_forms, 0))]) (σ' := srl σ []) rfl ?_
      refine wp_iald0 rfl rfl (by omega) ?_
      show en_wp k_X3_formAt 40 [some (.inr (.inr (r_Nought1, 0))), some (.inl d), some (.inl o), some (.inl k), some (.inl (((σ r_Nought1_formStart d) + (o * (sW n D d))) + k))] [.inl (σ r_Nought1_forms (((σ r_Nought1_formStart d) + (o * (sW n D d))) + k))] (srl σ []) _
      refine wp_run 1 (pc' := 44) (ls' := [some (.inr (.inr (r_Nought1, 0))), some (.inl d), some (.inl o), some (.inl k), some (.inl (((σ r_Nought1_formStart d) + (o * (sW n D d))) + k))]) (st' := [.inl (σ r_Nought1_forms (((σ r_Nought1_formStart d) + (o * (sW n D d))) + k))]) (σ' := srl σ []) rfl ?_
      exact wp_iret rfl ⟨(by rw [gst]), rfl⟩
theorem ct_X3_formOf_Nought1 (σ : en_m) (n : Int) (D : Int) (p : Int) (d : Int) (o : Int) (k : Int) (hI : cS0 σ n D p) (gd : 0 ≤ d ∧ d ≤ D) (gst : (σ r_Nought1_formStart) d = sQ n D d) (h1 : i32 o) (h2 : i32 k) : en_fn z_X3_formOf [.inr (.inr (r_Nought1, 0)), .inl d, .inl o, .inl k] σ (.inl (if (0 ≤ o ∧ o < sW n D d) ∧ 0 ≤ k ∧ k < sW n D d then (σ r_Nought1_forms) (sQ n D d + o * sW n D d + k) else 0)) := by
  show en_wp k_X3_formOf 0 [some (.inr (.inr (r_Nought1, 0))), some (.inl d), some (.inl o), some (.inl k)] [] (srl σ []) (fun r σ' => r = some (.inl (if (0 ≤ o ∧ o < sW n D d) ∧ 0 ≤ k ∧ k < sW n D d then (σ r_Nought1_forms) (sQ n D d + o * sW n D d + k) else 0)) ∧ σ' = σ)
  have hI2 := hI
  obtain ⟨hO, hn, hD, hp, hm, hst, hln⟩ := hI2
  obtain ⟨⟨hO1, hO2⟩, ⟨hO3, hO4⟩, hO5, hO6, hO7, hO8⟩ := id hO
  refine wp_run 3 (pc' := 3) (ls' := [some (.inr (.inr (r_Nought1, 0))), some (.inl d), some (.inl o), some (.inl k)]) (st' := [.inl o, .inl d, .inr (.inr (r_Nought1, 0))]) (σ' := srl σ []) rfl ?_
  refine wp_fnv (v := .inl (bI (0 ≤ o ∧ o < sW n D d))) rfl rfl rfl rfl (ct_X3_hasWord_Nought1 σ n D p d o hI (by omega) (by omega)) ?_
  show en_wp k_X3_formOf 6 [some (.inr (.inr (r_Nought1, 0))), some (.inl d), some (.inl o), some (.inl k)] [.inl (bI (0 ≤ o ∧ o < sW n D d))] (srl σ []) _
  refine wp_if_eqb rfl (fun h_1 => ?_) (fun h_1 => ?_)
  · show en_wp k_X3_formOf 28 [some (.inr (.inr (r_Nought1, 0))), some (.inl d), some (.inl o), some (.inl k)] [] (srl σ []) _
    refine wp_run 1 (pc' := 29) (ls' := [some (.inr (.inr (r_Nought1, 0))), some (.inl d), some (.inl o), some (.inl k)]) (st' := [.inl 0]) (σ' := srl σ []) rfl ?_
    exact wp_iret rfl ⟨(by repeat (first | rfl | rw [if_pos (by omega)] | rw [if_neg (by omega)])), rfl⟩
  · show en_wp k_X3_formOf 9 [some (.inr (.inr (r_Nought1, 0))), some (.inl d), some (.inl o), some (.inl k)] [] (srl σ []) _
    refine wp_run 3 (pc' := 12) (ls' := [some (.inr (.inr (r_Nought1, 0))), some (.inl d), some (.inl o), some (.inl k)]) (st' := [.inl k, .inl d, .inr (.inr (r_Nought1, 0))]) (σ' := srl σ []) rfl ?_
    refine wp_fnv (v := .inl (bI (0 ≤ k ∧ k < sW n D d))) rfl rfl rfl rfl (ct_X3_hasWord_Nought1 σ n D p d k hI (by omega) (by omega)) ?_
    show en_wp k_X3_formOf 15 [some (.inr (.inr (r_Nought1, 0))), some (.inl d), some (.inl o), some (.inl k)] [.inl (bI (0 ≤ k ∧ k < sW n D d))] (srl σ []) _
    refine wp_if_eqb rfl (fun h_2 => ?_) (fun h_2 => ?_)
    · show en_wp k_X3_formOf 28 [some (.inr (.inr (r_Nought1, 0))), some (.inl d), some (.inl o), some (.inl k)] [] (srl σ []) _
      refine wp_run 1 (pc' := 29) (ls' := [some (.inr (.inr (r_Nought1, 0))), some (.inl d), some (.inl o), some (.inl k)]) (st' := [.inl 0]) (σ' := srl σ []) rfl ?_
      exact wp_iret rfl ⟨(by repeat (first | rfl | rw [if_pos (by omega)] | rw [if_neg (by omega)])), rfl⟩
    · show en_wp k_X3_formOf 18 [some (.inr (.inr (r_Nought1, 0))), some (.inl d), some (.inl o), some (.inl k)] [] (srl σ []) _
      refine wp_run 4 (pc' := 22) (ls' := [some (.inr (.inr (r_Nought1, 0))), some (.inl d), some (.inl o), some (.inl k)]) (st' := [.inl k, .inl o, .inl d, .inr (.inr (r_Nought1, 0))]) (σ' := srl σ []) rfl ?_
      refine wp_fnv (v := .inl ((σ r_Nought1_forms) (sQ n D d + o * sW n D d + k))) rfl rfl rfl rfl (ct_X3_formAt_Nought1 σ n D p d o k hI (by omega) gst (by omega) (by omega)) ?_
      show en_wp k_X3_formOf 25 [some (.inr (.inr (r_Nought1, 0))), some (.inl d), some (.inl o), some (.inl k)] [.inl ((σ r_Nought1_forms) (sQ n D d + o * sW n D d + k))] (srl σ []) _
      refine wp_run 1 (pc' := 29) (ls' := [some (.inr (.inr (r_Nought1, 0))), some (.inl d), some (.inl o), some (.inl k)]) (st' := [.inl ((σ r_Nought1_forms) (sQ n D d + o * sW n D d + k))]) (σ' := srl σ []) rfl ?_
      exact wp_iret rfl ⟨(by repeat (first | rfl | rw [if_pos (by omega)] | rw [if_neg (by omega)])), rfl⟩
theorem ct_X3_forget_Nought1 (σ : en_m) : en_ct z_X3_forget [.inr (.inr (r_Nought1, 0))] σ (fun r σ' => r = none ∧ σ' = srl σ [(r_Nought1_lawsNow, (fun _ => 0)), (r_Nought1_reached, (fun _ => -1))]) := by
  show en_wp k_X3_forget 0 [some (.inr (.inr (r_Nought1, 0)))] [] (srl σ []) (fun r σ' => r = none ∧ σ' = srl σ [(r_Nought1_lawsNow, (fun _ => 0)), (r_Nought1_reached, (fun _ => -1))])
  refine wp_run 2 (pc' := 2) (ls' := [some (.inr (.inr (r_Nought1, 0)))]) (st' := [.inl 0, .inr (.inr (r_Nought1, 0))]) (σ' := srl σ []) rfl ?_
  refine wp_st (x := (5, [some (.inr (.inr (r_Nought1, 0)))], [], sr (srl σ []) r_Nought1_lawsNow (fun _ => 0))) rfl rfl (wp_wr (l2 := [(r_Nought1_lawsNow, (fun _ => 0))]) rfl ?_)
  show en_wp k_X3_forget 5 [some (.inr (.inr (r_Nought1, 0)))] [] (srl σ [(r_Nought1_lawsNow, (fun _ => 0))]) _
  refine wp_run 2 (pc' := 7) (ls' := [some (.inr (.inr (r_Nought1, 0)))]) (st' := [.inl (-1), .inr (.inr (r_Nought1, 0))]) (σ' := srl σ [(r_Nought1_lawsNow, (fun _ => 0))]) rfl ?_
  refine wp_st (x := (10, [some (.inr (.inr (r_Nought1, 0)))], [], sr (srl σ [(r_Nought1_lawsNow, (fun _ => 0))]) r_Nought1_reached (fun _ => (-1)))) rfl rfl (wp_wr (l2 := [(r_Nought1_lawsNow, (fun _ => 0)), (r_Nought1_reached, (fun _ => (-1)))]) rfl ?_)
  show en_wp k_X3_forget 10 [some (.inr (.inr (r_Nought1, 0)))] [] (srl σ [(r_Nought1_lawsNow, (fun _ => 0)), (r_Nought1_reached, (fun _ => (-1)))]) _
  exact wp_vret rfl ⟨rfl, srl_eq (l' := [(r_Nought1_lawsNow, (fun _ => 0)), (r_Nought1_reached, (fun _ => -1))]) (And.intro rfl (And.intro rfl trivial)) (And.intro rfl (And.intro rfl trivial))⟩
theorem ct_X3_lawCounts_Nought1 (σ : en_m) (i : Int) (w : Int) (h1 : i32 i) (h2 : i32 w) (h3 : 0 ≤ (σ r_Nought1_lawsNow) 0 ∧ (σ r_Nought1_lawsNow) 0 ≤ 16) : en_fn z_X3_lawCounts [.inr (.inr (r_Nought1, 0)), .inl i, .inl w] σ (.inl (if (0 ≤ i ∧ i < (σ r_Nought1_lawsNow) 0) ∧ 0 ≤ w ∧ w < 256 then (σ r_Nought1_lawsR) (i * 256 + w) else 0)) := by
  show en_wp k_X3_lawCounts 0 [some (.inr (.inr (r_Nought1, 0))), some (.inl i), some (.inl w)] [] (srl σ []) (fun r σ' => r = some (.inl (if (0 ≤ i ∧ i < (σ r_Nought1_lawsNow) 0) ∧ 0 ≤ w ∧ w < 256 then (σ r_Nought1_lawsR) (i * 256 + w) else 0)) ∧ σ' = σ)
  refine wp_run 1 (pc' := 1) (ls' := [some (.inr (.inr (r_Nought1, 0))), some (.inl i), some (.inl w)]) (st' := [.inl i]) (σ' := srl σ []) rfl ?_
  refine wp_if_lt rfl (by omega) (fun h_1 => ?_) (fun h_1 => ?_)
  · show en_wp k_X3_lawCounts 34 [some (.inr (.inr (r_Nought1, 0))), some (.inl i), some (.inl w)] [] (srl σ []) _
    refine wp_run 1 (pc' := 35) (ls' := [some (.inr (.inr (r_Nought1, 0))), some (.inl i), some (.inl w)]) (st' := [.inl 0]) (σ' := srl σ []) rfl ?_
    exact wp_iret rfl ⟨(by repeat (first | rfl | rw [if_pos (by omega)] | rw [if_neg (by omega)])), rfl⟩
  · show en_wp k_X3_lawCounts 4 [some (.inr (.inr (r_Nought1, 0))), some (.inl i), some (.inl w)] [] (srl σ []) _
    refine wp_run 3 (pc' := 9) (ls' := [some (.inr (.inr (r_Nought1, 0))), some (.inl i), some (.inl w)]) (st' := [.inl (σ r_Nought1_lawsNow 0), .inl i]) (σ' := srl σ []) rfl ?_
    refine wp_ic_ge rfl (by omega) (by omega) (fun h_2 => ?_) (fun h_2 => ?_)
    · show en_wp k_X3_lawCounts 34 [some (.inr (.inr (r_Nought1, 0))), some (.inl i), some (.inl w)] [] (srl σ []) _
      refine wp_run 1 (pc' := 35) (ls' := [some (.inr (.inr (r_Nought1, 0))), some (.inl i), some (.inl w)]) (st' := [.inl 0]) (σ' := srl σ []) rfl ?_
      exact wp_iret rfl ⟨(by repeat (first | rfl | rw [if_pos (by omega)] | rw [if_neg (by omega)])), rfl⟩
    · show en_wp k_X3_lawCounts 12 [some (.inr (.inr (r_Nought1, 0))), some (.inl i), some (.inl w)] [] (srl σ []) _
      refine wp_run 1 (pc' := 13) (ls' := [some (.inr (.inr (r_Nought1, 0))), some (.inl i), some (.inl w)]) (st' := [.inl w]) (σ' := srl σ []) rfl ?_
      refine wp_if_lt rfl (by omega) (fun h_3 => ?_) (fun h_3 => ?_)
      · show en_wp k_X3_lawCounts 34 [some (.inr (.inr (r_Nought1, 0))), some (.inl i), some (.inl w)] [] (srl σ []) _
        refine wp_run 1 (pc' := 35) (ls' := [some (.inr (.inr (r_Nought1, 0))), some (.inl i), some (.inl w)]) (st' := [.inl 0]) (σ' := srl σ []) rfl ?_
        exact wp_iret rfl ⟨(by repeat (first | rfl | rw [if_pos (by omega)] | rw [if_neg (by omega)])), rfl⟩
      · show en_wp k_X3_lawCounts 16 [some (.inr (.inr (r_Nought1, 0))), some (.inl i), some (.inl w)] [] (srl σ []) _
        refine wp_run 2 (pc' := 20) (ls' := [some (.inr (.inr (r_Nought1, 0))), some (.inl i), some (.inl w)]) (st' := [.inl 256, .inl w]) (σ' := srl σ []) rfl ?_
        refine wp_ic_ge rfl (by omega) (by omega) (fun h_4 => ?_) (fun h_4 => ?_)
        · show en_wp k_X3_lawCounts 34 [some (.inr (.inr (r_Nought1, 0))), some (.inl i), some (.inl w)] [] (srl σ []) _
          refine wp_run 1 (pc' := 35) (ls' := [some (.inr (.inr (r_Nought1, 0))), some (.inl i), some (.inl w)]) (st' := [.inl 0]) (σ' := srl σ []) rfl ?_
          exact wp_iret rfl ⟨(by repeat (first | rfl | rw [if_pos (by omega)] | rw [if_neg (by omega)])), rfl⟩
        · show en_wp k_X3_lawCounts 23 [some (.inr (.inr (r_Nought1, 0))), some (.inl i), some (.inl w)] [] (srl σ []) _
          refine wp_run 3 (pc' := 28) (ls' := [some (.inr (.inr (r_Nought1, 0))), some (.inl i), some (.inl w)]) (st' := [.inl i, .inr (.inr (r_Nought1_laws, 0))]) (σ' := srl σ []) rfl ?_
          refine wp_aald (m := 256) rfl rfl rfl (by omega) ?_
          show en_wp k_X3_lawCounts 29 [some (.inr (.inr (r_Nought1, 0))), some (.inl i), some (.inl w)] [.inr (.inr (r_Nought1_lawsR, (i * 256)))] (srl σ []) _
          refine wp_run 1 (pc' := 30) (ls' := [some (.inr (.inr (r_Nought1, 0))), some (.inl i), some (.inl w)]) (st' := [.inl w, .inr (.inr (r_Nought1_lawsR, (i * 256)))]) (σ' := srl σ []) rfl ?_
          refine wp_iald rfl rfl (by omega) ?_
          show en_wp k_X3_lawCounts 31 [some (.inr (.inr (r_Nought1, 0))), some (.inl i), some (.inl w)] [.inl (σ r_Nought1_lawsR ((i * 256) + w))] (srl σ []) _
          refine wp_run 1 (pc' := 35) (ls' := [some (.inr (.inr (r_Nought1, 0))), some (.inl i), some (.inl w)]) (st' := [.inl (σ r_Nought1_lawsR ((i * 256) + w))]) (σ' := srl σ []) rfl ?_
          exact wp_iret rfl ⟨(by repeat (first | rfl | rw [if_pos (by omega)] | rw [if_neg (by omega)])), rfl⟩
theorem ct_X3_reduce_Nought1 (σ : en_m) (n : Int) (D : Int) (p : Int) (d : Int) (m : Int) (hI : cS0 σ n D p) (gd : 0 ≤ d ∧ d ≤ D) (gm : m = sW n D d) (gst : (σ r_Nought1_formStart) d = sQ n D d) (grow : R97 ((σ r_Nought1_row))) (gfm : R97 ((σ r_Nought1_forms))) (gtri : ∀ w k, 0 ≤ w → w < k → k < sW n D d → (σ r_Nought1_forms) (sQ n D d + w * sW n D d + k) = 0) : en_ct z_X3_reduce [.inr (.inr (r_Nought1, 0)), .inl d, .inl m] σ (fun r σ' => ∃ (f_Nought1_reduced : Int → Int), r = none ∧ σ' = srl σ [(r_Nought1_reduced, f_Nought1_reduced)] ∧ (∀ x, 0 ≤ x → x < sW n D d → f_Nought1_reduced x = nfs (fun w k => (σ r_Nought1_forms) (sQ n D d + w * sW n D d + k)) (sW n D d) ((σ r_Nought1_row)) x % p)) := by
  show en_wp k_X3_reduce 0 [some (.inr (.inr (r_Nought1, 0))), some (.inl d), some (.inl m), none, none, none, none] [] (srl σ []) (fun r σ' => ∃ (f_Nought1_reduced : Int → Int), r = none ∧ σ' = srl σ [(r_Nought1_reduced, f_Nought1_reduced)] ∧ (∀ x, 0 ≤ x → x < sW n D d → f_Nought1_reduced x = nfs (fun w k => (σ r_Nought1_forms) (sQ n D d + w * sW n D d + k)) (sW n D d) ((σ r_Nought1_row)) x % p))
  have hI2 := hI
  obtain ⟨hO, hn, hD, hp, hm, hst, hln⟩ := hI2
  obtain ⟨⟨hO1, hO2⟩, ⟨hO3, hO4⟩, hO5, hO6, hO7, hO8⟩ := id hO
  have hWb := sW_b (k := d) hO
  have hp2 := hO.2.2.2.2.1
  have L_86 : ∀ (N : Nat) (k : Int) (X : Int → Int), (0 ≤ k ∧ k ≤ sW n D d) → (X = seg (σ r_Nought1_reduced) 0 256 (rS2 (σ r_Nought1_row) (fun w k => σ r_Nought1_forms (sQ n D d + w * sW n D d + k)) (sW n D d) p k)) → (sW n D d - k).toNat < N → en_wp k_X3_reduce 86 [some (.inr (.inr (r_Nought1, 0))), some (.inl d), some (.inl m), some (.inl k), none, none, none] [] (srl σ [(r_Nought1_reduced, X)]) (fun r σ' => ∃ (f_Nought1_reduced : Int → Int), r = none ∧ σ' = srl σ [(r_Nought1_reduced, f_Nought1_reduced)] ∧ (∀ x, 0 ≤ x → x < sW n D d → f_Nought1_reduced x = nfs (fun w k => (σ r_Nought1_forms) (sQ n D d + w * sW n D d + k)) (sW n D d) ((σ r_Nought1_row)) x % p)) := by
    intro N
    induction N with
    | zero => intro k X; intros; omega
    | succ N ih_86 =>
      intro k X hk hX hN_86
      refine wp_run 2 (pc' := 88) (ls' := [some (.inr (.inr (r_Nought1, 0))), some (.inl d), some (.inl m), some (.inl k), none, none, none]) (st' := [.inl m, .inl k]) (σ' := srl σ [(r_Nought1_reduced, X)]) rfl ?_
      refine wp_ic_ge rfl (by omega) (by omega) (fun h_1 => ?_) (fun h_1 => ?_)
      · show en_wp k_X3_reduce 116 [some (.inr (.inr (r_Nought1, 0))), some (.inl d), some (.inl m), some (.inl k), none, none, none] [] (srl σ [(r_Nought1_reduced, X)]) _
        exact wp_vret rfl ⟨X, rfl, srl_eq (l' := [(r_Nought1_reduced, X)]) (And.intro rfl trivial) (And.intro rfl trivial), (rS_fin hX (by omega) (by omega))⟩
      · show en_wp k_X3_reduce 91 [some (.inr (.inr (r_Nought1, 0))), some (.inl d), some (.inl m), some (.inl k), none, none, none] [] (srl σ [(r_Nought1_reduced, X)]) _
        refine wp_run 8 (pc' := 105) (ls' := [some (.inr (.inr (r_Nought1, 0))), some (.inl d), some (.inl m), some (.inl k), none, none, none]) (st' := [.inl k, .inr (.inr (r_Nought1_reduced, 0)), .inr (.inr (r_Shape0, 0)), .inl k, .inr (.inr (r_Nought1_reduced, 0))]) (σ' := srl σ [(r_Nought1_reduced, X)]) rfl ?_
        refine wp_iald0 rfl rfl (by omega) ?_
        show en_wp k_X3_reduce 106 [some (.inr (.inr (r_Nought1, 0))), some (.inl d), some (.inl m), some (.inl k), none, none, none] [.inl (X k), .inr (.inr (r_Shape0, 0)), .inl k, .inr (.inr (r_Nought1_reduced, 0))] (srl σ [(r_Nought1_reduced, X)]) _
        have hXb := rS_b hX (w := k) (by omega) (by omega) (by omega) grow (fun i _ _ => gfm _)
        refine wp_fnv (v := .inl ((X k) % p)) rfl rfl rfl rfl (ct_X5_rest_Shape0 (srl σ [(r_Nought1_reduced, X)]) n D p (X k) hI (by omega)) ?_
        show en_wp k_X3_reduce 109 [some (.inr (.inr (r_Nought1, 0))), some (.inl d), some (.inl m), some (.inl k), none, none, none] [.inl ((X k) % p), .inl k, .inr (.inr (r_Nought1_reduced, 0))] (srl σ [(r_Nought1_reduced, X)]) _
        have q_2 : 0 ≤ (X k) % p ∧ (X k) % p < p := sR_lt hO.2.2.2
        refine wp_iast0 rfl rfl (by omega) (wp_wr (l2 := [(r_Nought1_reduced, (up X k ((X k) % p)))]) rfl ?_)
        show en_wp k_X3_reduce 110 [some (.inr (.inr (r_Nought1, 0))), some (.inl d), some (.inl m), some (.inl k), none, none, none] [] (srl σ [(r_Nought1_reduced, (up X k ((X k) % p)))]) _
        refine wp_run 2 (pc' := 86) (ls' := [some (.inr (.inr (r_Nought1, 0))), some (.inl d), some (.inl m), some (.inl (k + 1)), none, none, none]) (st' := []) (σ' := srl σ [(r_Nought1_reduced, (up X k ((X k) % p)))]) rfl ?_
        exact ih_86 (k + 1) (up X k ((X k) % p)) (by omega) (rS_st2 hX (by omega) (by omega)) (by omega)
  have L_10 : ∀ (N : Nat) (w : Int) (X : Int → Int), (0 ≤ w ∧ w ≤ sW n D d) → (X = seg (σ r_Nought1_reduced) 0 256 (rS (σ r_Nought1_row) (fun w k => σ r_Nought1_forms (sQ n D d + w * sW n D d + k)) (sW n D d) w)) → (sW n D d - w).toNat < N → en_wp k_X3_reduce 10 [some (.inr (.inr (r_Nought1, 0))), some (.inl d), some (.inl m), some (.inl w), none, none, none] [] (srl σ [(r_Nought1_reduced, X)]) (fun r σ' => ∃ (f_Nought1_reduced : Int → Int), r = none ∧ σ' = srl σ [(r_Nought1_reduced, f_Nought1_reduced)] ∧ (∀ x, 0 ≤ x → x < sW n D d → f_Nought1_reduced x = nfs (fun w k => (σ r_Nought1_forms) (sQ n D d + w * sW n D d + k)) (sW n D d) ((σ r_Nought1_row)) x % p)) := by
    intro N
    induction N with
    | zero => intro w X; intros; omega
    | succ N ih_10 =>
      intro w X hw hX hN_10
      have L_38 : ∀ (N : Nat) (k : Int) (X : Int → Int), (w < sW n D d) → (0 ≤ k ∧ k ≤ w + 1) → (X = seg (σ r_Nought1_reduced) 0 256 (rS1 (σ r_Nought1_row) (fun w k => σ r_Nought1_forms (sQ n D d + w * sW n D d + k)) (sW n D d) w k)) → (w + 1 - k).toNat < N → en_wp k_X3_reduce 38 [some (.inr (.inr (r_Nought1, 0))), some (.inl d), some (.inl m), some (.inl w), some (.inl (σ r_Nought1_row w)), some (.inl (σ r_Nought1_formStart d + w * m)), some (.inl k)] [] (srl σ [(r_Nought1_reduced, X)]) (fun r σ' => ∃ (f_Nought1_reduced : Int → Int), r = none ∧ σ' = srl σ [(r_Nought1_reduced, f_Nought1_reduced)] ∧ (∀ x, 0 ≤ x → x < sW n D d → f_Nought1_reduced x = nfs (fun w k => (σ r_Nought1_forms) (sQ n D d + w * sW n D d + k)) (sW n D d) ((σ r_Nought1_row)) x % p)) := by
        intro N
        induction N with
        | zero => intro k X; intros; omega
        | succ N ih_38 =>
          intro k X hww hk hY hN_38
          refine wp_run 2 (pc' := 41) (ls' := [some (.inr (.inr (r_Nought1, 0))), some (.inl d), some (.inl m), some (.inl w), some (.inl (σ r_Nought1_row w)), some (.inl (σ r_Nought1_formStart d + w * m)), some (.inl k)]) (st' := [.inl w, .inl k]) (σ' := srl σ [(r_Nought1_reduced, X)]) rfl ?_
          refine wp_ic_gt rfl (by omega) (by omega) (fun h_3 => ?_) (fun h_3 => ?_)
          · have hXn := rS_e1 hY hw.1 (fun x h8 h9 => by
              show σ r_Nought1_row w * σ r_Nought1_forms (sQ n D d + w * sW n D d + x) = 0
              rw [gtri w x (by omega) (by omega) h9, Int.mul_zero])
            show en_wp k_X3_reduce 78 [some (.inr (.inr (r_Nought1, 0))), some (.inl d), some (.inl m), some (.inl w), some (.inl (σ r_Nought1_row w)), some (.inl (σ r_Nought1_formStart d + w * m)), some (.inl k)] [] (srl σ [(r_Nought1_reduced, X)]) _
            refine wp_run 2 (pc' := 10) (ls' := [some (.inr (.inr (r_Nought1, 0))), some (.inl d), some (.inl m), some (.inl (w + 1)), some (.inl (σ r_Nought1_row w)), some (.inl (σ r_Nought1_formStart d + w * m)), some (.inl k)]) (st' := []) (σ' := srl σ [(r_Nought1_reduced, X)]) rfl ?_
            refine wp_sub (l := [some (.inr (.inr (r_Nought1, 0))), some (.inl d), some (.inl m), some (.inl (w + 1)), none, none, none]) (And.intro rfl (And.intro rfl (And.intro rfl (And.intro rfl trivial)))) ?_
            exact ih_10 (w + 1) X (by omega) hXn (by omega)
          · show en_wp k_X3_reduce 44 [some (.inr (.inr (r_Nought1, 0))), some (.inl d), some (.inl m), some (.inl w), some (.inl (σ r_Nought1_row w)), some (.inl (σ r_Nought1_formStart d + w * m)), some (.inl k)] [] (srl σ [(r_Nought1_reduced, X)]) _
            refine wp_run 1 (pc' := 46) (ls' := [some (.inr (.inr (r_Nought1, 0))), some (.inl d), some (.inl m), some (.inl w), some (.inl (σ r_Nought1_row w)), some (.inl (σ r_Nought1_formStart d + w * m)), some (.inl k)]) (st' := [.inl (σ r_Nought1_row w)]) (σ' := srl σ [(r_Nought1_reduced, X)]) rfl ?_
            have hrw := grow w
            refine wp_if_eq rfl (by omega) (fun h_4 => ?_) (fun h_4 => ?_)
            · have hXn := rS_e1 hY hw.1 (fun x h8 h9 => by rw [h_4, Int.zero_mul])
              show en_wp k_X3_reduce 78 [some (.inr (.inr (r_Nought1, 0))), some (.inl d), some (.inl m), some (.inl w), some (.inl (σ r_Nought1_row w)), some (.inl (σ r_Nought1_formStart d + w * m)), some (.inl k)] [] (srl σ [(r_Nought1_reduced, X)]) _
              refine wp_run 2 (pc' := 10) (ls' := [some (.inr (.inr (r_Nought1, 0))), some (.inl d), some (.inl m), some (.inl (w + 1)), some (.inl (σ r_Nought1_row w)), some (.inl (σ r_Nought1_formStart d + w * m)), some (.inl k)]) (st' := []) (σ' := srl σ [(r_Nought1_reduced, X)]) rfl ?_
              refine wp_sub (l := [some (.inr (.inr (r_Nought1, 0))), some (.inl d), some (.inl m), some (.inl (w + 1)), none, none, none]) (And.intro rfl (And.intro rfl (And.intro rfl (And.intro rfl trivial)))) ?_
              exact ih_10 (w + 1) X (by omega) hXn (by omega)
            · show en_wp k_X3_reduce 49 [some (.inr (.inr (r_Nought1, 0))), some (.inl d), some (.inl m), some (.inl w), some (.inl (σ r_Nought1_row w)), some (.inl (σ r_Nought1_formStart d + w * m)), some (.inl k)] [] (srl σ [(r_Nought1_reduced, X)]) _
              refine wp_run 4 (pc' := 56) (ls' := [some (.inr (.inr (r_Nought1, 0))), some (.inl d), some (.inl m), some (.inl w), some (.inl (σ r_Nought1_row w)), some (.inl (σ r_Nought1_formStart d + w * m)), some (.inl k)]) (st' := [.inl k, .inr (.inr (r_Nought1_reduced, 0)), .inl k, .inr (.inr (r_Nought1_reduced, 0))]) (σ' := srl σ [(r_Nought1_reduced, X)]) rfl ?_
              refine wp_iald0 rfl rfl (by omega) ?_
              show en_wp k_X3_reduce 57 [some (.inr (.inr (r_Nought1, 0))), some (.inl d), some (.inl m), some (.inl w), some (.inl (σ r_Nought1_row w)), some (.inl (σ r_Nought1_formStart d + w * m)), some (.inl k)] [.inl (X k), .inl k, .inr (.inr (r_Nought1_reduced, 0))] (srl σ [(r_Nought1_reduced, X)]) _
              refine wp_run 6 (pc' := 68) (ls' := [some (.inr (.inr (r_Nought1, 0))), some (.inl d), some (.inl m), some (.inl w), some (.inl (σ r_Nought1_row w)), some (.inl (σ r_Nought1_formStart d + w * m)), some (.inl k)]) (st' := [.inl ((σ r_Nought1_formStart d + w * m) + k), .inr (.inr (r_Nought1_forms, 0)), .inl (σ r_Nought1_row w), .inl (X k), .inl k, .inr (.inr (r_Nought1_reduced, 0))]) (σ' := srl σ [(r_Nought1_reduced, X)]) rfl ?_
              have hat := sQ_in hO gd.1 (show 0 ≤ w ∧ w < sW n D d by omega) (show 0 ≤ k ∧ k < sW n D d by omega)
              rw [← gst, ← gm] at hat
              refine wp_iald0 rfl rfl (by omega) ?_
              show en_wp k_X3_reduce 69 [some (.inr (.inr (r_Nought1, 0))), some (.inl d), some (.inl m), some (.inl w), some (.inl (σ r_Nought1_row w)), some (.inl (σ r_Nought1_formStart d + w * m)), some (.inl k)] [.inl (σ r_Nought1_forms ((σ r_Nought1_formStart d + w * m) + k)), .inl (σ r_Nought1_row w), .inl (X k), .inl k, .inr (.inr (r_Nought1_reduced, 0))] (srl σ [(r_Nought1_reduced, X)]) _
              refine wp_run 2 (pc' := 71) (ls' := [some (.inr (.inr (r_Nought1, 0))), some (.inl d), some (.inl m), some (.inl w), some (.inl (σ r_Nought1_row w)), some (.inl (σ r_Nought1_formStart d + w * m)), some (.inl k)]) (st' := [.inl ((X k) + ((σ r_Nought1_row w) * (σ r_Nought1_forms ((σ r_Nought1_formStart d + w * m) + k)))), .inl k, .inr (.inr (r_Nought1_reduced, 0))]) (σ' := srl σ [(r_Nought1_reduced, X)]) rfl ?_
              refine wp_iast0 rfl rfl (by omega) (wp_wr (l2 := [(r_Nought1_reduced, (up X k ((X k) + ((σ r_Nought1_row w) * (σ r_Nought1_forms ((σ r_Nought1_formStart d + w * m) + k))))))]) rfl ?_)
              show en_wp k_X3_reduce 72 [some (.inr (.inr (r_Nought1, 0))), some (.inl d), some (.inl m), some (.inl w), some (.inl (σ r_Nought1_row w)), some (.inl (σ r_Nought1_formStart d + w * m)), some (.inl k)] [] (srl σ [(r_Nought1_reduced, (up X k ((X k) + ((σ r_Nought1_row w) * (σ r_Nought1_forms ((σ r_Nought1_formStart d + w * m) + k))))))]) _
              refine wp_run 2 (pc' := 38) (ls' := [some (.inr (.inr (r_Nought1, 0))), some (.inl d), some (.inl m), some (.inl w), some (.inl (σ r_Nought1_row w)), some (.inl (σ r_Nought1_formStart d + w * m)), some (.inl (k + 1))]) (st' := []) (σ' := srl σ [(r_Nought1_reduced, (up X k ((X k) + ((σ r_Nought1_row w) * (σ r_Nought1_forms ((σ r_Nought1_formStart d + w * m) + k))))))]) rfl ?_
              exact ih_38 (k + 1) (up X k ((X k) + ((σ r_Nought1_row w) * (σ r_Nought1_forms ((σ r_Nought1_formStart d + w * m) + k))))) (by omega) (by omega) (rS_st hY (by omega) (by omega) (by rw [gst, gm])) (by omega)
      refine wp_run 2 (pc' := 12) (ls' := [some (.inr (.inr (r_Nought1, 0))), some (.inl d), some (.inl m), some (.inl w), none, none, none]) (st' := [.inl m, .inl w]) (σ' := srl σ [(r_Nought1_reduced, X)]) rfl ?_
      refine wp_ic_ge rfl (by omega) (by omega) (fun h_5 => ?_) (fun h_5 => ?_)
      · have hwe : w = sW n D d := by omega
        rw [hwe] at hX
        show en_wp k_X3_reduce 84 [some (.inr (.inr (r_Nought1, 0))), some (.inl d), some (.inl m), some (.inl w), none, none, none] [] (srl σ [(r_Nought1_reduced, X)]) _
        refine wp_run 2 (pc' := 86) (ls' := [some (.inr (.inr (r_Nought1, 0))), some (.inl d), some (.inl m), some (.inl 0), none, none, none]) (st' := []) (σ' := srl σ [(r_Nought1_reduced, X)]) rfl ?_
        exact L_86 _ 0 X (by omega) (rS_02 hX) (Nat.lt_succ_self _)
      · show en_wp k_X3_reduce 15 [some (.inr (.inr (r_Nought1, 0))), some (.inl d), some (.inl m), some (.inl w), none, none, none] [] (srl σ [(r_Nought1_reduced, X)]) _
        refine wp_run 3 (pc' := 20) (ls' := [some (.inr (.inr (r_Nought1, 0))), some (.inl d), some (.inl m), some (.inl w), none, none, none]) (st' := [.inl w, .inr (.inr (r_Nought1_row, 0))]) (σ' := srl σ [(r_Nought1_reduced, X)]) rfl ?_
        refine wp_iald0 rfl rfl (by omega) ?_
        show en_wp k_X3_reduce 21 [some (.inr (.inr (r_Nought1, 0))), some (.inl d), some (.inl m), some (.inl w), none, none, none] [.inl (σ r_Nought1_row w)] (srl σ [(r_Nought1_reduced, X)]) _
        refine wp_run 4 (pc' := 28) (ls' := [some (.inr (.inr (r_Nought1, 0))), some (.inl d), some (.inl m), some (.inl w), some (.inl (σ r_Nought1_row w)), none, none]) (st' := [.inl d, .inr (.inr (r_Nought1_formStart, 0))]) (σ' := srl σ [(r_Nought1_reduced, X)]) rfl ?_
        refine wp_iald0 rfl rfl (by omega) ?_
        show en_wp k_X3_reduce 29 [some (.inr (.inr (r_Nought1, 0))), some (.inl d), some (.inl m), some (.inl w), some (.inl (σ r_Nought1_row w)), none, none] [.inl (σ r_Nought1_formStart d)] (srl σ [(r_Nought1_reduced, X)]) _
        refine wp_run 7 (pc' := 38) (ls' := [some (.inr (.inr (r_Nought1, 0))), some (.inl d), some (.inl m), some (.inl w), some (.inl (σ r_Nought1_row w)), some (.inl ((σ r_Nought1_formStart d) + (w * m))), some (.inl 0)]) (st' := []) (σ' := srl σ [(r_Nought1_reduced, X)]) rfl ?_
        exact L_38 _ 0 X (by omega) (by omega) (rS_01 hX) (Nat.lt_succ_self _)
  refine wp_run 3 (pc' := 5) (ls' := [some (.inr (.inr (r_Nought1, 0))), some (.inl d), some (.inl m), none, none, none, none]) (st' := [.inl 0, .inr (.inr (r_Nought1_reduced, 0))]) (σ' := srl σ []) rfl ?_
  refine wp_calls rfl rfl rfl rfl rfl (ct_J7_fill_53178_Nought1_reduced σ 0) ?_
  rintro _ _ ⟨rfl, rfl⟩
  show en_wp k_X3_reduce 8 [some (.inr (.inr (r_Nought1, 0))), some (.inl d), some (.inl m), none, none, none, none] [] (srl σ [(r_Nought1_reduced, (seg (σ r_Nought1_reduced) 0 256 (fun _ => 0)))]) _
  refine wp_run 2 (pc' := 10) (ls' := [some (.inr (.inr (r_Nought1, 0))), some (.inl d), some (.inl m), some (.inl 0), none, none, none]) (st' := []) (σ' := srl σ [(r_Nought1_reduced, (seg (σ r_Nought1_reduced) 0 256 (fun _ => 0)))]) rfl ?_
  exact L_10 _ 0 (seg (σ r_Nought1_reduced) 0 256 (fun _ => 0)) (by omega) rS_00 (Nat.lt_succ_self _)
theorem ct_X3_replace_Nought1 (σ : en_m) (n : Int) (D : Int) (p : Int) (at_ : Int) (l : Int) (hI : cS0 σ n D p) (h1 : 0 ≤ at_ ∧ 0 ≤ l ∧ l ≤ 255 ∧ at_ + l < 69905) (gfm : R97 ((σ r_Nought1_forms))) (gred : ∀ k, 0 ≤ k → k < l → 0 ≤ (σ r_Nought1_reduced) k ∧ (σ r_Nought1_reduced) k < 97) (gfp : ∀ k, 0 ≤ k → k < l → 0 ≤ (σ r_Nought1_forms) (at_ + k) ∧ (σ r_Nought1_forms) (at_ + k) < p) : en_ct z_X3_replace [.inr (.inr (r_Nought1, 0)), .inl at_, .inl l] σ (fun r σ' => ∃ (f_Nought1_forms : Int → Int), r = none ∧ σ' = srl σ [(r_Nought1_forms, f_Nought1_forms)] ∧ (f_Nought1_forms = up (seg ((σ r_Nought1_forms)) at_ l (fun k => ((σ r_Nought1_forms) (at_ + k) + (σ r_Nought1_forms) (at_ + l) * (σ r_Nought1_reduced) k) % p)) (at_ + l) 0)) := by
  show en_wp k_X3_replace 0 [some (.inr (.inr (r_Nought1, 0))), some (.inl at_), some (.inl l), none, none] [] (srl σ []) (fun r σ' => ∃ (f_Nought1_forms : Int → Int), r = none ∧ σ' = srl σ [(r_Nought1_forms, f_Nought1_forms)] ∧ (f_Nought1_forms = up (seg ((σ r_Nought1_forms)) at_ l (fun k => ((σ r_Nought1_forms) (at_ + k) + (σ r_Nought1_forms) (at_ + l) * (σ r_Nought1_reduced) k) % p)) (at_ + l) 0))
  have hI2 := hI
  obtain ⟨hO, hn, hD, hp, hm, hst, hln⟩ := hI2
  obtain ⟨⟨hO1, hO2⟩, ⟨hO3, hO4⟩, hO5, hO6, hO7, hO8⟩ := id hO
  have hfl := gfm (at_ + l)
  have L_17 : ∀ (N : Nat) (k : Int) (X : Int → Int), (0 ≤ k ∧ k ≤ l) → (X = seg (σ r_Nought1_forms) at_ k (fun k => (σ r_Nought1_forms (at_ + k) + σ r_Nought1_forms (at_ + l) * σ r_Nought1_reduced k) % p)) → (l - k).toNat < N → en_wp k_X3_replace 17 [some (.inr (.inr (r_Nought1, 0))), some (.inl at_), some (.inl l), some (.inl (σ r_Nought1_forms (at_ + l))), some (.inl k)] [] (srl σ [(r_Nought1_forms, X)]) (fun r σ' => ∃ (f_Nought1_forms : Int → Int), r = none ∧ σ' = srl σ [(r_Nought1_forms, f_Nought1_forms)] ∧ (f_Nought1_forms = up (seg ((σ r_Nought1_forms)) at_ l (fun k => ((σ r_Nought1_forms) (at_ + k) + (σ r_Nought1_forms) (at_ + l) * (σ r_Nought1_reduced) k) % p)) (at_ + l) 0)) := by
    intro N
    induction N with
    | zero => intro k X; intros; omega
    | succ N ih_17 =>
      intro k X hk hX hN_17
      refine wp_run 2 (pc' := 20) (ls' := [some (.inr (.inr (r_Nought1, 0))), some (.inl at_), some (.inl l), some (.inl (σ r_Nought1_forms (at_ + l))), some (.inl k)]) (st' := [.inl l, .inl k]) (σ' := srl σ [(r_Nought1_forms, X)]) rfl ?_
      refine wp_ic_ge rfl (by omega) (by omega) (fun h_1 => ?_) (fun h_1 => ?_)
      · show en_wp k_X3_replace 74 [some (.inr (.inr (r_Nought1, 0))), some (.inl at_), some (.inl l), some (.inl (σ r_Nought1_forms (at_ + l))), some (.inl k)] [] (srl σ [(r_Nought1_forms, X)]) _
        refine wp_run 6 (pc' := 82) (ls' := [some (.inr (.inr (r_Nought1, 0))), some (.inl at_), some (.inl l), some (.inl (σ r_Nought1_forms (at_ + l))), some (.inl k)]) (st' := [.inl 0, .inl (at_ + l), .inr (.inr (r_Nought1_forms, 0))]) (σ' := srl σ [(r_Nought1_forms, X)]) rfl ?_
        refine wp_iast0 rfl rfl (by omega) (wp_wr (l2 := [(r_Nought1_forms, (up X (at_ + l) 0))]) rfl ?_)
        show en_wp k_X3_replace 83 [some (.inr (.inr (r_Nought1, 0))), some (.inl at_), some (.inl l), some (.inl (σ r_Nought1_forms (at_ + l))), some (.inl k)] [] (srl σ [(r_Nought1_forms, (up X (at_ + l) 0))]) _
        exact wp_vret rfl ⟨(up X (at_ + l) 0), rfl, srl_eq (l' := [(r_Nought1_forms, (up X (at_ + l) 0))]) (And.intro rfl trivial) (And.intro rfl trivial), (by rw [hX, show k = l by omega])⟩
      · show en_wp k_X3_replace 23 [some (.inr (.inr (r_Nought1, 0))), some (.inl at_), some (.inl l), some (.inl (σ r_Nought1_forms (at_ + l))), some (.inl k)] [] (srl σ [(r_Nought1_forms, X)]) _
        refine wp_run 3 (pc' := 29) (ls' := [some (.inr (.inr (r_Nought1, 0))), some (.inl at_), some (.inl l), some (.inl (σ r_Nought1_forms (at_ + l))), some (.inl k)]) (st' := [.inl k, .inr (.inr (r_Nought1_reduced, 0))]) (σ' := srl σ [(r_Nought1_forms, X)]) rfl ?_
        refine wp_iald0 rfl rfl (by omega) ?_
        show en_wp k_X3_replace 30 [some (.inr (.inr (r_Nought1, 0))), some (.inl at_), some (.inl l), some (.inl (σ r_Nought1_forms (at_ + l))), some (.inl k)] [.inl (σ r_Nought1_reduced k)] (srl σ [(r_Nought1_forms, X)]) _
        have hr := gred k (by omega) (by omega)
        have hXk : X (at_ + k) = σ r_Nought1_forms (at_ + k) := by rw [hX]; exact seg_out (by omega)
        have hff := gfm (at_ + k)
        have hfp2 := gfp k (by omega) (by omega)
        have hm1 := m97 (a := σ r_Nought1_forms (at_ + l)) (b := σ r_Nought1_reduced k) hfl (by omega)
        refine wp_if_eq rfl (by omega) (fun h_2 => ?_) (fun h_2 => ?_)
        · have hXn : X = seg X (at_ + k) 1 (fun _ => (σ r_Nought1_forms (at_ + k) + σ r_Nought1_forms (at_ + l) * σ r_Nought1_reduced k) % p) := by
            funext x
            unfold seg
            split
            · rename_i h9
              rw [show x = at_ + k by omega, hXk, h_2, Int.mul_zero, Int.add_zero, Int.emod_eq_of_lt hfp2.1 hfp2.2]
            · rfl
          have hXm : X = seg (σ r_Nought1_forms) at_ (k + 1) (fun k => (σ r_Nought1_forms (at_ + k) + σ r_Nought1_forms (at_ + l) * σ r_Nought1_reduced k) % p) := by
            rw [hXn, hX, ← seg_up (v := (σ r_Nought1_forms (at_ + k) + σ r_Nought1_forms (at_ + l) * σ r_Nought1_reduced k) % p) hk.1 rfl]
            funext x
            unfold up seg
            by_cases h9 : x = at_ + k
            · rw [if_pos h9, if_pos (by omega)]
            · rw [if_neg h9, if_neg (by omega)]
          show en_wp k_X3_replace 68 [some (.inr (.inr (r_Nought1, 0))), some (.inl at_), some (.inl l), some (.inl (σ r_Nought1_forms (at_ + l))), some (.inl k)] [] (srl σ [(r_Nought1_forms, X)]) _
          refine wp_run 2 (pc' := 17) (ls' := [some (.inr (.inr (r_Nought1, 0))), some (.inl at_), some (.inl l), some (.inl (σ r_Nought1_forms (at_ + l))), some (.inl (k + 1))]) (st' := []) (σ' := srl σ [(r_Nought1_forms, X)]) rfl ?_
          exact ih_17 (k + 1) X (by omega) (by first | exact hXm | (rw [hXk, hX]; exact seg_up hk.1 rfl)) (by omega)
        · show en_wp k_X3_replace 33 [some (.inr (.inr (r_Nought1, 0))), some (.inl at_), some (.inl l), some (.inl (σ r_Nought1_forms (at_ + l))), some (.inl k)] [] (srl σ [(r_Nought1_forms, X)]) _
          refine wp_run 12 (pc' := 53) (ls' := [some (.inr (.inr (r_Nought1, 0))), some (.inl at_), some (.inl l), some (.inl (σ r_Nought1_forms (at_ + l))), some (.inl k)]) (st' := [.inl (at_ + k), .inr (.inr (r_Nought1_forms, 0)), .inr (.inr (r_Shape0, 0)), .inl (at_ + k), .inr (.inr (r_Nought1_forms, 0))]) (σ' := srl σ [(r_Nought1_forms, X)]) rfl ?_
          refine wp_iald0 rfl rfl (by omega) ?_
          show en_wp k_X3_replace 54 [some (.inr (.inr (r_Nought1, 0))), some (.inl at_), some (.inl l), some (.inl (σ r_Nought1_forms (at_ + l))), some (.inl k)] [.inl (X (at_ + k)), .inr (.inr (r_Shape0, 0)), .inl (at_ + k), .inr (.inr (r_Nought1_forms, 0))] (srl σ [(r_Nought1_forms, X)]) _
          refine wp_run 4 (pc' := 61) (ls' := [some (.inr (.inr (r_Nought1, 0))), some (.inl at_), some (.inl l), some (.inl (σ r_Nought1_forms (at_ + l))), some (.inl k)]) (st' := [.inl k, .inr (.inr (r_Nought1_reduced, 0)), .inl (σ r_Nought1_forms (at_ + l)), .inl (X (at_ + k)), .inr (.inr (r_Shape0, 0)), .inl (at_ + k), .inr (.inr (r_Nought1_forms, 0))]) (σ' := srl σ [(r_Nought1_forms, X)]) rfl ?_
          refine wp_iald0 rfl rfl (by omega) ?_
          show en_wp k_X3_replace 62 [some (.inr (.inr (r_Nought1, 0))), some (.inl at_), some (.inl l), some (.inl (σ r_Nought1_forms (at_ + l))), some (.inl k)] [.inl (σ r_Nought1_reduced k), .inl (σ r_Nought1_forms (at_ + l)), .inl (X (at_ + k)), .inr (.inr (r_Shape0, 0)), .inl (at_ + k), .inr (.inr (r_Nought1_forms, 0))] (srl σ [(r_Nought1_forms, X)]) _
          refine wp_run 2 (pc' := 64) (ls' := [some (.inr (.inr (r_Nought1, 0))), some (.inl at_), some (.inl l), some (.inl (σ r_Nought1_forms (at_ + l))), some (.inl k)]) (st' := [.inl ((X (at_ + k)) + ((σ r_Nought1_forms (at_ + l)) * (σ r_Nought1_reduced k))), .inr (.inr (r_Shape0, 0)), .inl (at_ + k), .inr (.inr (r_Nought1_forms, 0))]) (σ' := srl σ [(r_Nought1_forms, X)]) rfl ?_
          refine wp_fnv (v := .inl (((X (at_ + k)) + ((σ r_Nought1_forms (at_ + l)) * (σ r_Nought1_reduced k))) % p)) rfl rfl rfl rfl (ct_X5_rest_Shape0 (srl σ [(r_Nought1_forms, X)]) n D p ((X (at_ + k)) + ((σ r_Nought1_forms (at_ + l)) * (σ r_Nought1_reduced k))) hI (by omega)) ?_
          show en_wp k_X3_replace 67 [some (.inr (.inr (r_Nought1, 0))), some (.inl at_), some (.inl l), some (.inl (σ r_Nought1_forms (at_ + l))), some (.inl k)] [.inl (((X (at_ + k)) + ((σ r_Nought1_forms (at_ + l)) * (σ r_Nought1_reduced k))) % p), .inl (at_ + k), .inr (.inr (r_Nought1_forms, 0))] (srl σ [(r_Nought1_forms, X)]) _
          have q_3 : 0 ≤ ((X (at_ + k)) + ((σ r_Nought1_forms (at_ + l)) * (σ r_Nought1_reduced k))) % p ∧ ((X (at_ + k)) + ((σ r_Nought1_forms (at_ + l)) * (σ r_Nought1_reduced k))) % p < p := sR_lt hO.2.2.2
          refine wp_iast0 rfl rfl (by omega) (wp_wr (l2 := [(r_Nought1_forms, (up X (at_ + k) (((X (at_ + k)) + ((σ r_Nought1_forms (at_ + l)) * (σ r_Nought1_reduced k))) % p)))]) rfl ?_)
          show en_wp k_X3_replace 68 [some (.inr (.inr (r_Nought1, 0))), some (.inl at_), some (.inl l), some (.inl (σ r_Nought1_forms (at_ + l))), some (.inl k)] [] (srl σ [(r_Nought1_forms, (up X (at_ + k) (((X (at_ + k)) + ((σ r_Nought1_forms (at_ + l)) * (σ r_Nought1_reduced k))) % p)))]) _
          refine wp_run 2 (pc' := 17) (ls' := [some (.inr (.inr (r_Nought1, 0))), some (.inl at_), some (.inl l), some (.inl (σ r_Nought1_forms (at_ + l))), some (.inl (k + 1))]) (st' := []) (σ' := srl σ [(r_Nought1_forms, (up X (at_ + k) (((X (at_ + k)) + ((σ r_Nought1_forms (at_ + l)) * (σ r_Nought1_reduced k))) % p)))]) rfl ?_
          exact ih_17 (k + 1) (up X (at_ + k) (((X (at_ + k)) + ((σ r_Nought1_forms (at_ + l)) * (σ r_Nought1_reduced k))) % p)) (by omega) (by first | exact hXm | (rw [hXk, hX]; exact seg_up hk.1 rfl)) (by omega)
  refine wp_run 5 (pc' := 7) (ls' := [some (.inr (.inr (r_Nought1, 0))), some (.inl at_), some (.inl l), none, none]) (st' := [.inl (at_ + l), .inr (.inr (r_Nought1_forms, 0))]) (σ' := srl σ []) rfl ?_
  refine wp_iald0 rfl rfl (by omega) ?_
  show en_wp k_X3_replace 8 [some (.inr (.inr (r_Nought1, 0))), some (.inl at_), some (.inl l), none, none] [.inl (σ r_Nought1_forms (at_ + l))] (srl σ []) _
  refine wp_run 2 (pc' := 10) (ls' := [some (.inr (.inr (r_Nought1, 0))), some (.inl at_), some (.inl l), some (.inl (σ r_Nought1_forms (at_ + l))), none]) (st' := [.inl (σ r_Nought1_forms (at_ + l))]) (σ' := srl σ []) rfl ?_
  refine wp_if_ne rfl (by omega) (fun h_4 => ?_) (fun h_4 => ?_)
  · show en_wp k_X3_replace 14 [some (.inr (.inr (r_Nought1, 0))), some (.inl at_), some (.inl l), some (.inl (σ r_Nought1_forms (at_ + l))), none] [] (srl σ []) _
    refine wp_run 2 (pc' := 17) (ls' := [some (.inr (.inr (r_Nought1, 0))), some (.inl at_), some (.inl l), some (.inl (σ r_Nought1_forms (at_ + l))), some (.inl 0)]) (st' := []) (σ' := srl σ []) rfl ?_
    refine wp_mem (srl_eq (l' := [(r_Nought1_forms, (σ r_Nought1_forms))]) trivial (And.intro rfl trivial)) ?_
    exact L_17 _ 0 (σ r_Nought1_forms) (by omega) (seg_0 _ _ _).symm (Nat.lt_succ_self _)
  · show en_wp k_X3_replace 13 [some (.inr (.inr (r_Nought1, 0))), some (.inl at_), some (.inl l), some (.inl (σ r_Nought1_forms (at_ + l))), none] [] (srl σ []) _
    exact wp_vret rfl ⟨(σ r_Nought1_forms), rfl, srl_eq (l' := [(r_Nought1_forms, σ r_Nought1_forms)]) trivial (And.intro rfl trivial), (rp_same gfp (by assumption))⟩
