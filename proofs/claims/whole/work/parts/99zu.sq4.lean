/-! contracts of methods, walked (written by wip/whole/walk.py from the annotations ann_m50) -/
theorem ct_J7_fill_53178_Squares_row (σ : en_m) (v : Int) : en_ct z_J7_fill_53178 [.inr (.inr (r_Squares_row, 0)), .inl v] σ (fun r σ' => r = none ∧ σ' = srl σ [(r_Squares_row, (seg (σ r_Squares_row) 0 256 (fun _ => v)))]) := by
  show en_wp k_J7_fill_53178 0 [some (.inr (.inr (r_Squares_row, 0))), some (.inl v), none, none] [] (srl σ []) (fun r σ' => r = none ∧ σ' = srl σ [(r_Squares_row, (seg (σ r_Squares_row) 0 256 (fun _ => v)))])
  have L_5 : ∀ (N : Nat) (k : Int) (X : Int → Int), (0 ≤ k ∧ k ≤ 256) → (X = seg (σ r_Squares_row) 0 k (fun _ => v)) → (256 - k).toNat < N → en_wp k_J7_fill_53178 5 [some (.inr (.inr (r_Squares_row, 0))), some (.inl v), some (.inl k), some (.inl 256)] [] (srl σ [(r_Squares_row, X)]) (fun r σ' => r = none ∧ σ' = srl σ [(r_Squares_row, (seg (σ r_Squares_row) 0 256 (fun _ => v)))]) := by
    intro N
    induction N with
    | zero => intro k X; intros; omega
    | succ N ih_5 =>
      intro k X hk hX hN_5
      refine wp_run 2 (pc' := 7) (ls' := [some (.inr (.inr (r_Squares_row, 0))), some (.inl v), some (.inl k), some (.inl 256)]) (st' := [.inl 256, .inl k]) (σ' := srl σ [(r_Squares_row, X)]) rfl ?_
      refine wp_ic_ge rfl (by omega) (by omega) (fun h_1 => ?_) (fun h_1 => ?_)
      · show en_wp k_J7_fill_53178 20 [some (.inr (.inr (r_Squares_row, 0))), some (.inl v), some (.inl k), some (.inl 256)] [] (srl σ [(r_Squares_row, X)]) _
        exact wp_vret rfl ⟨rfl, (by rw [hX, show k = 256 by omega])⟩
      · show en_wp k_J7_fill_53178 10 [some (.inr (.inr (r_Squares_row, 0))), some (.inl v), some (.inl k), some (.inl 256)] [] (srl σ [(r_Squares_row, X)]) _
        refine wp_run 3 (pc' := 13) (ls' := [some (.inr (.inr (r_Squares_row, 0))), some (.inl v), some (.inl k), some (.inl 256)]) (st' := [.inl v, .inl k, .inr (.inr (r_Squares_row, 0))]) (σ' := srl σ [(r_Squares_row, X)]) rfl ?_
        refine wp_iast0 rfl rfl (by omega) (wp_wr (l2 := [(r_Squares_row, (up X k v))]) rfl ?_)
        show en_wp k_J7_fill_53178 14 [some (.inr (.inr (r_Squares_row, 0))), some (.inl v), some (.inl k), some (.inl 256)] [] (srl σ [(r_Squares_row, (up X k v))]) _
        refine wp_run 2 (pc' := 5) (ls' := [some (.inr (.inr (r_Squares_row, 0))), some (.inl v), some (.inl (k + 1)), some (.inl 256)]) (st' := []) (σ' := srl σ [(r_Squares_row, (up X k v))]) rfl ?_
        exact ih_5 (k + 1) (up X k v) (by omega) (by rw [hX]; exact seg_up0 hk.1 rfl) (by omega)
  refine wp_run 5 (pc' := 5) (ls' := [some (.inr (.inr (r_Squares_row, 0))), some (.inl v), some (.inl 0), some (.inl 256)]) (st' := []) (σ' := srl σ []) rfl ?_
  refine wp_mem (srl_eq (l' := [(r_Squares_row, (σ r_Squares_row))]) trivial (And.intro rfl trivial)) ?_
  exact L_5 _ 0 (σ r_Squares_row) (by omega) (seg_0 _ _ _).symm (Nat.lt_succ_self _)
theorem ct_X6_inOrder (σ : en_m) (n : Int) (D : Int) (p : Int) (w : Int) (d : Int) (hI : cS0 σ n D p) (hn0 : 0 < n) (hd : 1 ≤ d ∧ d ≤ D) (hw : 0 ≤ w ∧ w < sW n D d) : en_ct z_X6_inOrder [.inr (.inr (r_Squares, 0)), .inl w, .inl d] σ (fun r σ' => ∃ (rr : Int), r = some (.inl rr) ∧ σ' = srl σ [] ∧ (0 ≤ rr ∧ rr < sW n D d) ∧ (∀ v : Int → Int, wpr (fun x => rh 1 p (v x)) n (d).toNat rr = wpr (fun x => rh 1 p (v x)) n (d).toNat w)) := by
  show en_wp k_X6_inOrder 0 [some (.inr (.inr (r_Squares, 0))), some (.inl w), some (.inl d), none, none, none] [] (srl σ []) (fun r σ' => ∃ (rr : Int), r = some (.inl rr) ∧ σ' = srl σ [] ∧ (0 ≤ rr ∧ rr < sW n D d) ∧ (∀ v : Int → Int, wpr (fun x => rh 1 p (v x)) n (d).toNat rr = wpr (fun x => rh 1 p (v x)) n (d).toNat w))
  have hI2 := hI
  obtain ⟨hO, hn, hD, hp, hm, hst, hln⟩ := hI2
  obtain ⟨⟨hO1, hO2⟩, ⟨hO3, hO4⟩, hO5, hO6, hO7, hO8⟩ := id hO
  have hs1 : sW n D 1 = n := by rw [sW_in (by omega) (by omega)]; exact Int.pow_one n
  have hWd := sW_b (k := d) hO
  have L_5 : ∀ (N : Nat) (l : Int) (o : Int) (c : Int), (0 ≤ l ∧ l ≤ n) → (ioI n D d w o c l 0) → (n - l).toNat < N → en_wp k_X6_inOrder 5 [some (.inr (.inr (r_Squares, 0))), some (.inl w), some (.inl d), some (.inl o), some (.inl l), none] [] (srl σ []) (fun r σ' => ∃ (rr : Int), r = some (.inl rr) ∧ σ' = srl σ [] ∧ (0 ≤ rr ∧ rr < sW n D d) ∧ (∀ v : Int → Int, wpr (fun x => rh 1 p (v x)) n (d).toNat rr = wpr (fun x => rh 1 p (v x)) n (d).toNat w)) := by
    intro N
    induction N with
    | zero => intro l o c; intros; omega
    | succ N ih_5 =>
      intro l o c hl hI9 hN_5
      have L_20 : ∀ (N : Nat) (j : Int) (o : Int) (c : Int), (l < n) → (0 ≤ j ∧ j ≤ d) → (ioI n D d w o c l j) → (d - j).toNat < N → en_wp k_X6_inOrder 20 [some (.inr (.inr (r_Squares, 0))), some (.inl w), some (.inl d), some (.inl o), some (.inl l), some (.inl j)] [] (srl σ []) (fun r σ' => ∃ (rr : Int), r = some (.inl rr) ∧ σ' = srl σ [] ∧ (0 ≤ rr ∧ rr < sW n D d) ∧ (∀ v : Int → Int, wpr (fun x => rh 1 p (v x)) n (d).toNat rr = wpr (fun x => rh 1 p (v x)) n (d).toNat w)) := by
        intro N
        induction N with
        | zero => intro j o c; intros; omega
        | succ N ih_20 =>
          intro j o c hln9 hj hI9 hN_20
          refine wp_run 2 (pc' := 23) (ls' := [some (.inr (.inr (r_Squares, 0))), some (.inl w), some (.inl d), some (.inl o), some (.inl l), some (.inl j)]) (st' := [.inl d, .inl j]) (σ' := srl σ []) rfl ?_
          refine wp_ic_ge rfl (by omega) (by omega) (fun h_1 => ?_) (fun h_1 => ?_)
          · show en_wp k_X6_inOrder 67 [some (.inr (.inr (r_Squares, 0))), some (.inl w), some (.inl d), some (.inl o), some (.inl l), some (.inl j)] [] (srl σ []) _
            refine wp_run 2 (pc' := 5) (ls' := [some (.inr (.inr (r_Squares, 0))), some (.inl w), some (.inl d), some (.inl o), some (.inl (l + 1)), some (.inl j)]) (st' := []) (σ' := srl σ []) rfl ?_
            refine wp_sub (l := [some (.inr (.inr (r_Squares, 0))), some (.inl w), some (.inl d), some (.inl o), some (.inl (l + 1)), none]) (And.intro rfl (And.intro rfl (And.intro rfl (And.intro rfl (And.intro rfl trivial))))) ?_
            exact ih_5 (l + 1) o c (by omega) (io_row hl.1 hI9 (by omega)) (by omega)
          · show en_wp k_X6_inOrder 26 [some (.inr (.inr (r_Squares, 0))), some (.inl w), some (.inl d), some (.inl o), some (.inl l), some (.inl j)] [] (srl σ []) _
            refine wp_run 6 (pc' := 37) (ls' := [some (.inr (.inr (r_Squares, 0))), some (.inl w), some (.inl d), some (.inl o), some (.inl l), some (.inl j)]) (st' := [.inl j, .inl w, .inr (.inr (r_Shape0, 0)), .inr (.inr (r_Shape0, 0))]) (σ' := srl σ []) rfl ?_
            have hpj := sW_p hO hj.1 (show j ≤ d by omega) hw
            have hq9 := Int.ediv_nonneg hw.1 (show 0 ≤ sW n D j by omega)
            have hq8 := Int.ediv_le_self (b := sW n D j) hw.1
            refine wp_fnv (v := .inl (w / sW n D j)) rfl rfl rfl rfl (ct_X5_headOf_Shape0_p σ n D p w j hI (by omega) (by omega) (by omega)) ?_
            show en_wp k_X6_inOrder 40 [some (.inr (.inr (r_Squares, 0))), some (.inl w), some (.inl d), some (.inl o), some (.inl l), some (.inl j)] [.inl (w / sW n D j), .inr (.inr (r_Shape0, 0))] (srl σ []) _
            have q_2 : 0 ≤ w / sW n D j := Int.ediv_nonneg (by omega) (by omega)
            refine wp_run 1 (pc' := 41) (ls' := [some (.inr (.inr (r_Squares, 0))), some (.inl w), some (.inl d), some (.inl o), some (.inl l), some (.inl j)]) (st' := [.inl 1, .inl (w / sW n D j), .inr (.inr (r_Shape0, 0))]) (σ' := srl σ []) rfl ?_
            refine wp_fnv (v := .inl ((w / sW n D j) % sW n D 1)) rfl rfl rfl rfl (ct_X5_tailOf_Shape0_p σ n D p (w / sW n D j) 1 hI (by omega) (by omega) (by omega)) ?_
            show en_wp k_X6_inOrder 44 [some (.inr (.inr (r_Squares, 0))), some (.inl w), some (.inl d), some (.inl o), some (.inl l), some (.inl j)] [.inl ((w / sW n D j) % sW n D 1)] (srl σ []) _
            rw [hs1]
            show en_wp k_X6_inOrder 44 [some (.inr (.inr (r_Squares, 0))), some (.inl w), some (.inl d), some (.inl o), some (.inl l), some (.inl j)] [.inl ((w / sW n D j) % n)] (srl σ []) _
            have q_3 : 0 ≤ (w / sW n D j) % sW n D 1 ∧ (w / sW n D j) % sW n D 1 < sW n D 1 := ⟨Int.emod_nonneg _ (by omega), Int.emod_lt_of_pos _ (by omega)⟩
            refine wp_run 1 (pc' := 46) (ls' := [some (.inr (.inr (r_Squares, 0))), some (.inl w), some (.inl d), some (.inl o), some (.inl l), some (.inl j)]) (st' := [.inl l, .inl ((w / sW n D j) % n)]) (σ' := srl σ []) rfl ?_
            have hm9 := Int.emod_nonneg (w / sW n D j) (show n ≠ 0 by omega)
            have hm8 := Int.emod_lt_of_pos (w / sW n D j) (show 0 < n by omega)
            refine wp_ic_ne rfl (by omega) (by omega) (fun h_4 => ?_) (fun h_4 => ?_)
            · show en_wp k_X6_inOrder 61 [some (.inr (.inr (r_Squares, 0))), some (.inl w), some (.inl d), some (.inl o), some (.inl l), some (.inl j)] [] (srl σ []) _
              refine wp_run 2 (pc' := 20) (ls' := [some (.inr (.inr (r_Squares, 0))), some (.inl w), some (.inl d), some (.inl o), some (.inl l), some (.inl (j + 1))]) (st' := []) (σ' := srl σ []) rfl ?_
              exact ih_20 (j + 1) o c (by omega) (by omega) (io_no hj.1 hI9 (by omega)) (by omega)
            · show en_wp k_X6_inOrder 49 [some (.inr (.inr (r_Squares, 0))), some (.inl w), some (.inl d), some (.inl o), some (.inl l), some (.inl j)] [] (srl σ []) _
              refine wp_run 5 (pc' := 57) (ls' := [some (.inr (.inr (r_Squares, 0))), some (.inl w), some (.inl d), some (.inl o), some (.inl l), some (.inl j)]) (st' := [.inl 1, .inl l, .inl o, .inr (.inr (r_Shape0, 0))]) (σ' := srl σ []) rfl ?_
              refine wp_fnv (v := .inl (o * sW n D 1 + l)) rfl rfl rfl rfl (ct_X5_join_Shape0 σ n D p o l 1 hI (by omega)) ?_
              show en_wp k_X6_inOrder 60 [some (.inr (.inr (r_Squares, 0))), some (.inl w), some (.inl d), some (.inl o), some (.inl l), some (.inl j)] [.inl (o * sW n D 1 + l)] (srl σ []) _
              rw [hs1]
              show en_wp k_X6_inOrder 60 [some (.inr (.inr (r_Squares, 0))), some (.inl w), some (.inl d), some (.inl o), some (.inl l), some (.inl j)] [.inl (o * n + l)] (srl σ []) _
              refine wp_run 3 (pc' := 20) (ls' := [some (.inr (.inr (r_Squares, 0))), some (.inl w), some (.inl d), some (.inl (o * n + l)), some (.inl l), some (.inl (j + 1))]) (st' := []) (σ' := srl σ []) rfl ?_
              exact ih_20 (j + 1) (o * n + l) (c + 1) (by omega) (by omega) (io_yes (by omega) hj.1 hI9 (by omega)) (by omega)
      refine wp_run 3 (pc' := 11) (ls' := [some (.inr (.inr (r_Squares, 0))), some (.inl w), some (.inl d), some (.inl o), some (.inl l), none]) (st' := [.inr (.inr (r_Shape0, 0)), .inl l]) (σ' := srl σ []) rfl ?_
      refine wp_fnv (v := .inl n) rfl rfl rfl rfl (ct_X5_lettersTold_Shape0 σ n D p hI) ?_
      show en_wp k_X6_inOrder 14 [some (.inr (.inr (r_Squares, 0))), some (.inl w), some (.inl d), some (.inl o), some (.inl l), none] [.inl n, .inl l] (srl σ []) _
      refine wp_ic_ge rfl (by omega) (by omega) (fun h_5 => ?_) (fun h_5 => ?_)
      · show en_wp k_X6_inOrder 73 [some (.inr (.inr (r_Squares, 0))), some (.inl w), some (.inl d), some (.inl o), some (.inl l), none] [] (srl σ []) _
        refine wp_run 1 (pc' := 74) (ls' := [some (.inr (.inr (r_Squares, 0))), some (.inl w), some (.inl d), some (.inl o), some (.inl l), none]) (st' := [.inl o]) (σ' := srl σ []) rfl ?_
        exact wp_iret rfl ⟨o, rfl, srl_eq (l' := []) trivial trivial, (io_fin hO hn0 (by omega) hI9 (by omega))⟩
      · show en_wp k_X6_inOrder 17 [some (.inr (.inr (r_Squares, 0))), some (.inl w), some (.inl d), some (.inl o), some (.inl l), none] [] (srl σ []) _
        refine wp_run 2 (pc' := 20) (ls' := [some (.inr (.inr (r_Squares, 0))), some (.inl w), some (.inl d), some (.inl o), some (.inl l), some (.inl 0)]) (st' := []) (σ' := srl σ []) rfl ?_
        exact L_20 _ 0 o c (by omega) (by omega) hI9 (Nat.lt_succ_self _)
  refine wp_run 4 (pc' := 5) (ls' := [some (.inr (.inr (r_Squares, 0))), some (.inl w), some (.inl d), some (.inl 0), some (.inl 0), none]) (st' := []) (σ' := srl σ []) rfl ?_
  exact L_5 _ 0 0 0 (by omega) io_0 (Nat.lt_succ_self _)
theorem ct_X6_takeRow (σ : en_m) (n : Int) (D : Int) (p : Int) (i : Int) (d : Int) (hI : cS0 σ n D p) (hsd : (σ r_Squares_side) 0 = 1 ∨ ((σ r_Squares_side) 0 = 2 ∧ p ≤ 3)) (hml : 0 ≤ (σ r_Nought0_lawsNow) 0 ∧ (σ r_Nought0_lawsNow) 0 ≤ 8) (hlr : R97 ((σ r_Nought0_lawsR)) ∧ ∀ x, (σ r_Nought0_lawsR) x < 97) (hi : 0 ≤ i ∧ i < 8) (hdl : d = (if 0 ≤ i ∧ i < (σ r_Nought0_lawsNow) 0 then (σ r_Nought0_lengths) i else 0)) (hd : 0 ≤ d ∧ d ≤ D) (hnn : 1 ≤ d → 0 < n) (hrw : R97 ((σ r_Squares_row))) : en_ct z_X6_takeRow [.inr (.inr (r_Squares, 0)), .inl i, .inl d] σ (fun r σ' => ∃ (f_Squares_row : Int → Int), r = none ∧ σ' = srl σ [(r_Squares_row, f_Squares_row)] ∧ (1 ≤ d → ∀ v : Int → Int, q2E p (q2S (fun x => q2s (f_Squares_row x) (wpr (fun x => rh ((σ r_Squares_side) 0) p (v x)) n (d).toNat x)) (sW n D d).toNat) (lvl (fun x => rh ((σ r_Squares_side) 0) p (v x)) n (sW n D d) (d).toNat (fun w => (σ r_Nought0_lawsR) (i * 256 + w)))) ∧ ((∀ x, 0 ≤ x → x < sW n D d → f_Squares_row x < p) ∧ R97 f_Squares_row)) := by
  show en_wp k_X6_takeRow 0 [some (.inr (.inr (r_Squares, 0))), some (.inl i), some (.inl d), none, none, none] [] (srl σ []) (fun r σ' => ∃ (f_Squares_row : Int → Int), r = none ∧ σ' = srl σ [(r_Squares_row, f_Squares_row)] ∧ (1 ≤ d → ∀ v : Int → Int, q2E p (q2S (fun x => q2s (f_Squares_row x) (wpr (fun x => rh ((σ r_Squares_side) 0) p (v x)) n (d).toNat x)) (sW n D d).toNat) (lvl (fun x => rh ((σ r_Squares_side) 0) p (v x)) n (sW n D d) (d).toNat (fun w => (σ r_Nought0_lawsR) (i * 256 + w)))) ∧ ((∀ x, 0 ≤ x → x < sW n D d → f_Squares_row x < p) ∧ R97 f_Squares_row))
  have hI2 := hI
  obtain ⟨hO, hn, hD, hp, hm, hst, hln⟩ := hI2
  obtain ⟨⟨hO1, hO2⟩, ⟨hO3, hO4⟩, hO5, hO6, hO7, hO8⟩ := id hO
  have hWd := sW_b (k := d) hO
  have L_10 : ∀ (N : Nat) (w : Int) (X : Int → Int), (0 ≤ w ∧ w ≤ sW n D d) → (1 ≤ d → ∀ v : Int → Int, q2E p (q2S (fun x => q2s (X x) (wpr (fun x => rh (σ r_Squares_side 0) p (v x)) n d.toNat x)) (sW n D d).toNat) (q2S (fun x => q2s (σ r_Nought0_lawsR (i * 256 + x)) (wpr (fun x => rh (σ r_Squares_side 0) p (v x)) n d.toNat x)) w.toNat)) → ((∀ x, 0 ≤ x → x < sW n D d → X x < p) ∧ R97 X) → (sW n D d - w).toNat < N → en_wp k_X6_takeRow 10 [some (.inr (.inr (r_Squares, 0))), some (.inl i), some (.inl d), some (.inl w), none, none] [] (srl σ [(r_Squares_row, X)]) (fun r σ' => ∃ (f_Squares_row : Int → Int), r = none ∧ σ' = srl σ [(r_Squares_row, f_Squares_row)] ∧ (1 ≤ d → ∀ v : Int → Int, q2E p (q2S (fun x => q2s (f_Squares_row x) (wpr (fun x => rh ((σ r_Squares_side) 0) p (v x)) n (d).toNat x)) (sW n D d).toNat) (lvl (fun x => rh ((σ r_Squares_side) 0) p (v x)) n (sW n D d) (d).toNat (fun w => (σ r_Nought0_lawsR) (i * 256 + w)))) ∧ ((∀ x, 0 ≤ x → x < sW n D d → f_Squares_row x < p) ∧ R97 f_Squares_row)) := by
    intro N
    induction N with
    | zero => intro w X; intros; omega
    | succ N ih_10 =>
      intro w X hw hX hX2 hN_10
      refine wp_run 1 (pc' := 11) (ls' := [some (.inr (.inr (r_Squares, 0))), some (.inl i), some (.inl d), some (.inl w), none, none]) (st' := [.inl d]) (σ' := srl σ [(r_Squares_row, X)]) rfl ?_
      refine wp_if_le rfl (by omega) (fun h_1 => ?_) (fun h_1 => ?_)
      · show en_wp k_X6_takeRow 92 [some (.inr (.inr (r_Squares, 0))), some (.inl i), some (.inl d), some (.inl w), none, none] [] (srl σ [(r_Squares_row, X)]) _
        exact wp_vret rfl ⟨X, rfl, srl_eq (l' := [(r_Squares_row, X)]) (And.intro rfl trivial) (And.intro rfl trivial), ⟨fun q v => by have h9 := hX q v; first | (rw [show w.toNat = (sW n D d).toNat by omega] at h9; exact h9) | (exfalso; omega), hX2⟩⟩
      · show en_wp k_X6_takeRow 14 [some (.inr (.inr (r_Squares, 0))), some (.inl i), some (.inl d), some (.inl w), none, none] [] (srl σ [(r_Squares_row, X)]) _
        refine wp_run 4 (pc' := 20) (ls' := [some (.inr (.inr (r_Squares, 0))), some (.inl i), some (.inl d), some (.inl w), none, none]) (st' := [.inl d, .inr (.inr (r_Shape0, 0)), .inl w]) (σ' := srl σ [(r_Squares_row, X)]) rfl ?_
        refine wp_fnv (v := .inl (sW n D d)) rfl rfl rfl rfl (ct_X5_wordsOf_Shape0 (srl σ [(r_Squares_row, X)]) n D p d hI (by omega)) ?_
        show en_wp k_X6_takeRow 23 [some (.inr (.inr (r_Squares, 0))), some (.inl i), some (.inl d), some (.inl w), none, none] [.inl (sW n D d), .inl w] (srl σ [(r_Squares_row, X)]) _
        have q_2 : 0 ≤ sW n D d ∧ sW n D d ≤ 256 := sW_b hO
        refine wp_ic_ge rfl (by omega) (by omega) (fun h_3 => ?_) (fun h_3 => ?_)
        · show en_wp k_X6_takeRow 92 [some (.inr (.inr (r_Squares, 0))), some (.inl i), some (.inl d), some (.inl w), none, none] [] (srl σ [(r_Squares_row, X)]) _
          exact wp_vret rfl ⟨X, rfl, srl_eq (l' := [(r_Squares_row, X)]) (And.intro rfl trivial) (And.intro rfl trivial), ⟨fun q v => by have h9 := hX q v; first | (rw [show w.toNat = (sW n D d).toNat by omega] at h9; exact h9) | (exfalso; omega), hX2⟩⟩
        · show en_wp k_X6_takeRow 26 [some (.inr (.inr (r_Squares, 0))), some (.inl i), some (.inl d), some (.inl w), none, none] [] (srl σ [(r_Squares_row, X)]) _
          refine wp_run 4 (pc' := 32) (ls' := [some (.inr (.inr (r_Squares, 0))), some (.inl i), some (.inl d), some (.inl w), none, none]) (st' := [.inl w, .inl i, .inr (.inr (r_Nought0, 0))]) (σ' := srl σ [(r_Squares_row, X)]) rfl ?_
          refine wp_fnv (v := .inl (if (0 ≤ i ∧ i < (σ r_Nought0_lawsNow) 0) ∧ 0 ≤ w ∧ w < 256 then (σ r_Nought0_lawsR) (i * 256 + w) else 0)) rfl rfl rfl rfl (ct_X3_lawCounts_Nought0 (srl σ [(r_Squares_row, X)]) i w (by omega) (by omega) (by show 0 ≤ σ r_Nought0_lawsNow 0 ∧ σ r_Nought0_lawsNow 0 ≤ 16; omega)) ?_
          show en_wp k_X6_takeRow 35 [some (.inr (.inr (r_Squares, 0))), some (.inl i), some (.inl d), some (.inl w), none, none] [.inl (if (0 ≤ i ∧ i < (σ r_Nought0_lawsNow) 0) ∧ 0 ≤ w ∧ w < 256 then (σ r_Nought0_lawsR) (i * 256 + w) else 0)] (srl σ [(r_Squares_row, X)]) _
          rw [if_pos (show (0 ≤ i ∧ i < (σ r_Nought0_lawsNow) 0) ∧ 0 ≤ w ∧ w < 256 by rw [hdl] at *; split at * <;> omega)]
          show en_wp k_X6_takeRow 35 [some (.inr (.inr (r_Squares, 0))), some (.inl i), some (.inl d), some (.inl w), none, none] [.inl (σ r_Nought0_lawsR (i * 256 + w))] (srl σ [(r_Squares_row, X)]) _
          refine wp_run 2 (pc' := 39) (ls' := [some (.inr (.inr (r_Squares, 0))), some (.inl i), some (.inl d), some (.inl w), some (.inl (σ r_Nought0_lawsR (i * 256 + w))), none]) (st' := [.inl (σ r_Nought0_lawsR (i * 256 + w))]) (σ' := srl σ [(r_Squares_row, X)]) rfl ?_
          have hc9 := hlr.1 (i * 256 + w)
          refine wp_if_eq rfl (by omega) (fun h_4 => ?_) (fun h_4 => ?_)
          · show en_wp k_X6_takeRow 86 [some (.inr (.inr (r_Squares, 0))), some (.inl i), some (.inl d), some (.inl w), some (.inl (σ r_Nought0_lawsR (i * 256 + w))), none] [] (srl σ [(r_Squares_row, X)]) _
            refine wp_run 2 (pc' := 10) (ls' := [some (.inr (.inr (r_Squares, 0))), some (.inl i), some (.inl d), some (.inl (w + 1)), some (.inl (σ r_Nought0_lawsR (i * 256 + w))), none]) (st' := []) (σ' := srl σ [(r_Squares_row, X)]) rfl ?_
            refine wp_sub (l := [some (.inr (.inr (r_Squares, 0))), some (.inl i), some (.inl d), some (.inl (w + 1)), none, none]) (And.intro rfl (And.intro rfl (And.intro rfl (And.intro rfl trivial)))) ?_
            exact ih_10 (w + 1) X (by omega) (fun q v => by rw [q2S_s _ hw.1]; exact q2E_t (hX q v) (q2E_of (row_0 (by assumption)))) hX2 (by omega)
          · show en_wp k_X6_takeRow 42 [some (.inr (.inr (r_Squares, 0))), some (.inl i), some (.inl d), some (.inl w), some (.inl (σ r_Nought0_lawsR (i * 256 + w))), none] [] (srl σ [(r_Squares_row, X)]) _
            refine wp_run 3 (pc' := 47) (ls' := [some (.inr (.inr (r_Squares, 0))), some (.inl i), some (.inl d), some (.inl w), some (.inl (σ r_Nought0_lawsR (i * 256 + w))), none]) (st' := [.inl 1, .inl (σ r_Squares_side 0)]) (σ' := srl σ [(r_Squares_row, X)]) rfl ?_
            refine wp_ic_ne rfl (by omega) (by omega) (fun h_5 => ?_) (fun h_5 => ?_)
            · have hs1 := h_5
              show en_wp k_X6_takeRow 59 [some (.inr (.inr (r_Squares, 0))), some (.inl i), some (.inl d), some (.inl w), some (.inl (σ r_Nought0_lawsR (i * 256 + w))), none] [] (srl σ [(r_Squares_row, X)]) _
              refine wp_run 10 (pc' := 78) (ls' := [some (.inr (.inr (r_Squares, 0))), some (.inl i), some (.inl d), some (.inl w), some (.inl (σ r_Nought0_lawsR (i * 256 + w))), some (.inl w)]) (st' := [.inl w, .inr (.inr (r_Squares_row, 0)), .inr (.inr (r_Shape0, 0)), .inl w, .inr (.inr (r_Squares_row, 0))]) (σ' := srl σ [(r_Squares_row, X)]) rfl ?_
              refine wp_iald0 rfl rfl (by omega) ?_
              show en_wp k_X6_takeRow 79 [some (.inr (.inr (r_Squares, 0))), some (.inl i), some (.inl d), some (.inl w), some (.inl (σ r_Nought0_lawsR (i * 256 + w))), some (.inl w)] [.inl (X w), .inr (.inr (r_Shape0, 0)), .inl w, .inr (.inr (r_Squares_row, 0))] (srl σ [(r_Squares_row, X)]) _
              refine wp_run 2 (pc' := 82) (ls' := [some (.inr (.inr (r_Squares, 0))), some (.inl i), some (.inl d), some (.inl w), some (.inl (σ r_Nought0_lawsR (i * 256 + w))), some (.inl w)]) (st' := [.inl ((X w) + (σ r_Nought0_lawsR (i * 256 + w))), .inr (.inr (r_Shape0, 0)), .inl w, .inr (.inr (r_Squares_row, 0))]) (σ' := srl σ [(r_Squares_row, X)]) rfl ?_
              
              refine wp_fnv (v := .inl (((X w) + (σ r_Nought0_lawsR (i * 256 + w))) % p)) rfl rfl rfl rfl (ct_X5_rest_Shape0 (srl σ [(r_Squares_row, X)]) n D p ((X w) + (σ r_Nought0_lawsR (i * 256 + w))) hI (by first | (have := hX2.2 w; omega) | (have := hX2.2 a9; rw [ha9] at this; omega))) ?_
              show en_wp k_X6_takeRow 85 [some (.inr (.inr (r_Squares, 0))), some (.inl i), some (.inl d), some (.inl w), some (.inl (σ r_Nought0_lawsR (i * 256 + w))), some (.inl w)] [.inl (((X w) + (σ r_Nought0_lawsR (i * 256 + w))) % p), .inl w, .inr (.inr (r_Squares_row, 0))] (srl σ [(r_Squares_row, X)]) _
              have q_6 : 0 ≤ ((X w) + (σ r_Nought0_lawsR (i * 256 + w))) % p ∧ ((X w) + (σ r_Nought0_lawsR (i * 256 + w))) % p < p := sR_lt hO.2.2.2
              refine wp_iast0 rfl rfl (by omega) (wp_wr (l2 := [(r_Squares_row, (up X w (((X w) + (σ r_Nought0_lawsR (i * 256 + w))) % p)))]) rfl ?_)
              show en_wp k_X6_takeRow 86 [some (.inr (.inr (r_Squares, 0))), some (.inl i), some (.inl d), some (.inl w), some (.inl (σ r_Nought0_lawsR (i * 256 + w))), some (.inl w)] [] (srl σ [(r_Squares_row, (up X w (((X w) + (σ r_Nought0_lawsR (i * 256 + w))) % p)))]) _
              refine wp_run 2 (pc' := 10) (ls' := [some (.inr (.inr (r_Squares, 0))), some (.inl i), some (.inl d), some (.inl (w + 1)), some (.inl (σ r_Nought0_lawsR (i * 256 + w))), some (.inl w)]) (st' := []) (σ' := srl σ [(r_Squares_row, (up X w (((X w) + (σ r_Nought0_lawsR (i * 256 + w))) % p)))]) rfl ?_
              refine wp_sub (l := [some (.inr (.inr (r_Squares, 0))), some (.inl i), some (.inl d), some (.inl (w + 1)), none, none]) (And.intro rfl (And.intro rfl (And.intro rfl (And.intro rfl trivial)))) ?_
              exact ih_10 (w + 1) (up X w (((X w) + (σ r_Nought0_lawsR (i * 256 + w))) % p)) (by omega) (fun q v => row_st (c := fun x => σ r_Nought0_lawsR (i * 256 + x)) hw.1 (by omega) (q2E_r p _) (hX q v)) (rowb_up hO.2.2.2 hX2) (by omega)
            · have hs1 : σ r_Squares_side 0 = 1 := h_5
              show en_wp k_X6_takeRow 50 [some (.inr (.inr (r_Squares, 0))), some (.inl i), some (.inl d), some (.inl w), some (.inl (σ r_Nought0_lawsR (i * 256 + w))), none] [] (srl σ [(r_Squares_row, X)]) _
              refine wp_run 3 (pc' := 53) (ls' := [some (.inr (.inr (r_Squares, 0))), some (.inl i), some (.inl d), some (.inl w), some (.inl (σ r_Nought0_lawsR (i * 256 + w))), none]) (st' := [.inl d, .inl w, .inr (.inr (r_Squares, 0))]) (σ' := srl σ [(r_Squares_row, X)]) rfl ?_
              refine wp_callv rfl rfl rfl rfl (ct_X6_inOrder (srl σ [(r_Squares_row, X)]) n D p w d hI (hnn (by omega)) (by omega) (by omega)) ?_
              rintro _ _ ⟨r_7, rfl, rfl, p_8, p_9⟩
              have p_8 : 0 ≤ r_7 ∧ r_7 < sW n D d := p_8
              have p_9 : ∀ v : Int → Int, wpr (fun x => rh 1 p (v x)) n (d).toNat r_7 = wpr (fun x => rh 1 p (v x)) n (d).toNat w := p_9
              show en_wp k_X6_takeRow 56 [some (.inr (.inr (r_Squares, 0))), some (.inl i), some (.inl d), some (.inl w), some (.inl (σ r_Nought0_lawsR (i * 256 + w))), none] [.inl r_7] (srl σ [(r_Squares_row, X)]) _
              have ko := (⟨p_8, p_9⟩ : _ ∧ _)
              obtain ⟨a9, ha9⟩ : ∃ x : Int, x = r_7 := ⟨_, rfl⟩
              refine wp_run 10 (pc' := 78) (ls' := [some (.inr (.inr (r_Squares, 0))), some (.inl i), some (.inl d), some (.inl w), some (.inl (σ r_Nought0_lawsR (i * 256 + w))), some (.inl r_7)]) (st' := [.inl r_7, .inr (.inr (r_Squares_row, 0)), .inr (.inr (r_Shape0, 0)), .inl r_7, .inr (.inr (r_Squares_row, 0))]) (σ' := srl σ [(r_Squares_row, X)]) rfl ?_
              refine wp_iald0 rfl rfl (by omega) ?_
              show en_wp k_X6_takeRow 79 [some (.inr (.inr (r_Squares, 0))), some (.inl i), some (.inl d), some (.inl w), some (.inl (σ r_Nought0_lawsR (i * 256 + w))), some (.inl r_7)] [.inl (X r_7), .inr (.inr (r_Shape0, 0)), .inl r_7, .inr (.inr (r_Squares_row, 0))] (srl σ [(r_Squares_row, X)]) _
              refine wp_run 2 (pc' := 82) (ls' := [some (.inr (.inr (r_Squares, 0))), some (.inl i), some (.inl d), some (.inl w), some (.inl (σ r_Nought0_lawsR (i * 256 + w))), some (.inl r_7)]) (st' := [.inl ((X r_7) + (σ r_Nought0_lawsR (i * 256 + w))), .inr (.inr (r_Shape0, 0)), .inl r_7, .inr (.inr (r_Squares_row, 0))]) (σ' := srl σ [(r_Squares_row, X)]) rfl ?_
              
              refine wp_fnv (v := .inl (((X r_7) + (σ r_Nought0_lawsR (i * 256 + w))) % p)) rfl rfl rfl rfl (ct_X5_rest_Shape0 (srl σ [(r_Squares_row, X)]) n D p ((X r_7) + (σ r_Nought0_lawsR (i * 256 + w))) hI (by first | (have := hX2.2 w; omega) | (have := hX2.2 a9; rw [ha9] at this; omega))) ?_
              show en_wp k_X6_takeRow 85 [some (.inr (.inr (r_Squares, 0))), some (.inl i), some (.inl d), some (.inl w), some (.inl (σ r_Nought0_lawsR (i * 256 + w))), some (.inl r_7)] [.inl (((X r_7) + (σ r_Nought0_lawsR (i * 256 + w))) % p), .inl r_7, .inr (.inr (r_Squares_row, 0))] (srl σ [(r_Squares_row, X)]) _
              have q_10 : 0 ≤ ((X r_7) + (σ r_Nought0_lawsR (i * 256 + w))) % p ∧ ((X r_7) + (σ r_Nought0_lawsR (i * 256 + w))) % p < p := sR_lt hO.2.2.2
              refine wp_iast0 rfl rfl (by omega) (wp_wr (l2 := [(r_Squares_row, (up X r_7 (((X r_7) + (σ r_Nought0_lawsR (i * 256 + w))) % p)))]) rfl ?_)
              show en_wp k_X6_takeRow 86 [some (.inr (.inr (r_Squares, 0))), some (.inl i), some (.inl d), some (.inl w), some (.inl (σ r_Nought0_lawsR (i * 256 + w))), some (.inl r_7)] [] (srl σ [(r_Squares_row, (up X r_7 (((X r_7) + (σ r_Nought0_lawsR (i * 256 + w))) % p)))]) _
              refine wp_run 2 (pc' := 10) (ls' := [some (.inr (.inr (r_Squares, 0))), some (.inl i), some (.inl d), some (.inl (w + 1)), some (.inl (σ r_Nought0_lawsR (i * 256 + w))), some (.inl r_7)]) (st' := []) (σ' := srl σ [(r_Squares_row, (up X r_7 (((X r_7) + (σ r_Nought0_lawsR (i * 256 + w))) % p)))]) rfl ?_
              refine wp_sub (l := [some (.inr (.inr (r_Squares, 0))), some (.inl i), some (.inl d), some (.inl (w + 1)), none, none]) (And.intro rfl (And.intro rfl (And.intro rfl (And.intro rfl trivial)))) ?_
              exact ih_10 (w + 1) (up X r_7 (((X r_7) + (σ r_Nought0_lawsR (i * 256 + w))) % p)) (by omega) (fun q v => row_st (c := fun x => σ r_Nought0_lawsR (i * 256 + x)) hw.1 ko.1 (by rw [hs1]; exact q2E_of (ko.2 v)) (hX q v)) (rowb_up hO.2.2.2 hX2) (by omega)
  refine wp_run 3 (pc' := 5) (ls' := [some (.inr (.inr (r_Squares, 0))), some (.inl i), some (.inl d), none, none, none]) (st' := [.inl 0, .inr (.inr (r_Squares_row, 0))]) (σ' := srl σ []) rfl ?_
  refine wp_calls rfl rfl rfl rfl rfl (ct_J7_fill_53178_Squares_row σ 0) ?_
  rintro _ _ ⟨rfl, rfl⟩
  show en_wp k_X6_takeRow 8 [some (.inr (.inr (r_Squares, 0))), some (.inl i), some (.inl d), none, none, none] [] (srl σ [(r_Squares_row, (seg (σ r_Squares_row) 0 256 (fun _ => 0)))]) _
  refine wp_run 2 (pc' := 10) (ls' := [some (.inr (.inr (r_Squares, 0))), some (.inl i), some (.inl d), some (.inl 0), none, none]) (st' := []) (σ' := srl σ [(r_Squares_row, (seg (σ r_Squares_row) 0 256 (fun _ => 0)))]) rfl ?_
  exact L_10 _ 0 (seg (σ r_Squares_row) 0 256 (fun _ => 0)) (by omega) (fun q v => q2E_of (row_z _ (fun x a b => by rw [seg_in0 (by omega)]))) ⟨fun x a b => by rw [seg_in0 (by omega)]; omega, R97_seg hrw (fun _ _ _ => by decide)⟩ (Nat.lt_succ_self _)
