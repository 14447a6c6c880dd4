/-! contracts of methods, walked (written by wip/whole/walk.py from the annotations ann_el) -/
theorem ct_J7_fill_53178_Elements_rowsR (σ : en_m) (o : Int) (v : Int) : en_ct z_J7_fill_53178 [.inr (.inr (r_Elements_rowsR, o)), .inl v] σ (fun r σ' => r = none ∧ σ' = srl σ [(r_Elements_rowsR, (seg (σ r_Elements_rowsR) o 364 (fun _ => v)))]) := by
  show en_wp k_J7_fill_53178 0 [some (.inr (.inr (r_Elements_rowsR, o))), some (.inl v), none, none] [] (srl σ []) (fun r σ' => r = none ∧ σ' = srl σ [(r_Elements_rowsR, (seg (σ r_Elements_rowsR) o 364 (fun _ => v)))])
  have L_5 : ∀ (N : Nat) (k : Int) (X : Int → Int), (0 ≤ k ∧ k ≤ 364) → (X = seg (σ r_Elements_rowsR) o k (fun _ => v)) → (364 - k).toNat < N → en_wp k_J7_fill_53178 5 [some (.inr (.inr (r_Elements_rowsR, o))), some (.inl v), some (.inl k), some (.inl 364)] [] (srl σ [(r_Elements_rowsR, X)]) (fun r σ' => r = none ∧ σ' = srl σ [(r_Elements_rowsR, (seg (σ r_Elements_rowsR) o 364 (fun _ => v)))]) := by
    intro N
    induction N with
    | zero => intro k X; intros; omega
    | succ N ih_5 =>
      intro k X hk hX hN_5
      refine wp_run 2 (pc' := 7) (ls' := [some (.inr (.inr (r_Elements_rowsR, o))), some (.inl v), some (.inl k), some (.inl 364)]) (st' := [.inl 364, .inl k]) (σ' := srl σ [(r_Elements_rowsR, X)]) rfl ?_
      refine wp_ic_ge rfl (by omega) (by omega) (fun h_1 => ?_) (fun h_1 => ?_)
      · show en_wp k_J7_fill_53178 20 [some (.inr (.inr (r_Elements_rowsR, o))), some (.inl v), some (.inl k), some (.inl 364)] [] (srl σ [(r_Elements_rowsR, X)]) _
        exact wp_vret rfl ⟨rfl, (by rw [hX, show k = 364 by omega])⟩
      · show en_wp k_J7_fill_53178 10 [some (.inr (.inr (r_Elements_rowsR, o))), some (.inl v), some (.inl k), some (.inl 364)] [] (srl σ [(r_Elements_rowsR, X)]) _
        refine wp_run 3 (pc' := 13) (ls' := [some (.inr (.inr (r_Elements_rowsR, o))), some (.inl v), some (.inl k), some (.inl 364)]) (st' := [.inl v, .inl k, .inr (.inr (r_Elements_rowsR, o))]) (σ' := srl σ [(r_Elements_rowsR, X)]) rfl ?_
        refine wp_iast rfl rfl (by omega) (wp_wr (l2 := [(r_Elements_rowsR, (up X (o + k) v))]) rfl ?_)
        show en_wp k_J7_fill_53178 14 [some (.inr (.inr (r_Elements_rowsR, o))), some (.inl v), some (.inl k), some (.inl 364)] [] (srl σ [(r_Elements_rowsR, (up X (o + k) v))]) _
        refine wp_run 2 (pc' := 5) (ls' := [some (.inr (.inr (r_Elements_rowsR, o))), some (.inl v), some (.inl (k + 1)), some (.inl 364)]) (st' := []) (σ' := srl σ [(r_Elements_rowsR, (up X (o + k) v))]) rfl ?_
        exact ih_5 (k + 1) (up X (o + k) v) (by omega) (by rw [hX]; exact seg_up hk.1 rfl) (by omega)
  refine wp_run 5 (pc' := 5) (ls' := [some (.inr (.inr (r_Elements_rowsR, o))), some (.inl v), some (.inl 0), some (.inl 364)]) (st' := []) (σ' := srl σ []) rfl ?_
  refine wp_mem (srl_eq (l' := [(r_Elements_rowsR, (σ r_Elements_rowsR))]) trivial (And.intro rfl trivial)) ?_
  exact L_5 _ 0 (σ r_Elements_rowsR) (by omega) (seg_0 _ _ _).symm (Nat.lt_succ_self _)
theorem ct_J7_fill_53178_Elements_spare (σ : en_m) (v : Int) : en_ct z_J7_fill_53178 [.inr (.inr (r_Elements_spare, 0)), .inl v] σ (fun r σ' => r = none ∧ σ' = srl σ [(r_Elements_spare, (seg (σ r_Elements_spare) 0 364 (fun _ => v)))]) := by
  show en_wp k_J7_fill_53178 0 [some (.inr (.inr (r_Elements_spare, 0))), some (.inl v), none, none] [] (srl σ []) (fun r σ' => r = none ∧ σ' = srl σ [(r_Elements_spare, (seg (σ r_Elements_spare) 0 364 (fun _ => v)))])
  have L_5 : ∀ (N : Nat) (k : Int) (X : Int → Int), (0 ≤ k ∧ k ≤ 364) → (X = seg (σ r_Elements_spare) 0 k (fun _ => v)) → (364 - k).toNat < N → en_wp k_J7_fill_53178 5 [some (.inr (.inr (r_Elements_spare, 0))), some (.inl v), some (.inl k), some (.inl 364)] [] (srl σ [(r_Elements_spare, X)]) (fun r σ' => r = none ∧ σ' = srl σ [(r_Elements_spare, (seg (σ r_Elements_spare) 0 364 (fun _ => v)))]) := by
    intro N
    induction N with
    | zero => intro k X; intros; omega
    | succ N ih_5 =>
      intro k X hk hX hN_5
      refine wp_run 2 (pc' := 7) (ls' := [some (.inr (.inr (r_Elements_spare, 0))), some (.inl v), some (.inl k), some (.inl 364)]) (st' := [.inl 364, .inl k]) (σ' := srl σ [(r_Elements_spare, X)]) rfl ?_
      refine wp_ic_ge rfl (by omega) (by omega) (fun h_1 => ?_) (fun h_1 => ?_)
      · show en_wp k_J7_fill_53178 20 [some (.inr (.inr (r_Elements_spare, 0))), some (.inl v), some (.inl k), some (.inl 364)] [] (srl σ [(r_Elements_spare, X)]) _
        exact wp_vret rfl ⟨rfl, (by rw [hX, show k = 364 by omega])⟩
      · show en_wp k_J7_fill_53178 10 [some (.inr (.inr (r_Elements_spare, 0))), some (.inl v), some (.inl k), some (.inl 364)] [] (srl σ [(r_Elements_spare, X)]) _
        refine wp_run 3 (pc' := 13) (ls' := [some (.inr (.inr (r_Elements_spare, 0))), some (.inl v), some (.inl k), some (.inl 364)]) (st' := [.inl v, .inl k, .inr (.inr (r_Elements_spare, 0))]) (σ' := srl σ [(r_Elements_spare, X)]) rfl ?_
        refine wp_iast0 rfl rfl (by omega) (wp_wr (l2 := [(r_Elements_spare, (up X k v))]) rfl ?_)
        show en_wp k_J7_fill_53178 14 [some (.inr (.inr (r_Elements_spare, 0))), some (.inl v), some (.inl k), some (.inl 364)] [] (srl σ [(r_Elements_spare, (up X k v))]) _
        refine wp_run 2 (pc' := 5) (ls' := [some (.inr (.inr (r_Elements_spare, 0))), some (.inl v), some (.inl (k + 1)), some (.inl 364)]) (st' := []) (σ' := srl σ [(r_Elements_spare, (up X k v))]) rfl ?_
        exact ih_5 (k + 1) (up X k v) (by omega) (by rw [hX]; exact seg_up0 hk.1 rfl) (by omega)
  refine wp_run 5 (pc' := 5) (ls' := [some (.inr (.inr (r_Elements_spare, 0))), some (.inl v), some (.inl 0), some (.inl 364)]) (st' := []) (σ' := srl σ []) rfl ?_
  refine wp_mem (srl_eq (l' := [(r_Elements_spare, (σ r_Elements_spare))]) trivial (And.intro rfl trivial)) ?_
  exact L_5 _ 0 (σ r_Elements_spare) (by omega) (seg_0 _ _ _).symm (Nat.lt_succ_self _)
theorem ct_X5_greatestIn_Shape0_Elements_rowsR (σ : en_m) (n : Int) (D : Int) (p : Int) (o : Int) (hI : cS0 σ n D p) (hE : R97 ((σ r_Elements_rowsR))) : en_fn z_X5_greatestIn [.inr (.inr (r_Shape0, 0)), .inr (.inr (r_Elements_rowsR, o))] σ (.inl (sG (fun k => (σ r_Elements_rowsR) (o + k)) (sS n D (D + 1)).toNat)) := by
  show en_wp k_X5_greatestIn 0 [some (.inr (.inr (r_Shape0, 0))), some (.inr (.inr (r_Elements_rowsR, o))), none] [] (srl σ []) (fun r σ' => r = some (.inl (sG (fun k => (σ r_Elements_rowsR) (o + k)) (sS n D (D + 1)).toNat)) ∧ σ' = σ)
  have hI2 := hI
  obtain ⟨hO, hn, hD, hp, hm, hst, hln⟩ := hI2
  obtain ⟨⟨hO1, hO2⟩, ⟨hO3, hO4⟩, hO5, hO6, hO7, hO8⟩ := id hO
  have hAb := sS_b (k := D + 1) hO
  have h8 := hst 8 (by omega) (by omega)
  rw [sS_8 hO] at h8
  have hmn : min (σ r_Shape0_start 8) 364 = sS n D (D + 1) := by rw [h8]; exact Int.min_eq_left (by omega)
  have L_15 : ∀ (N : Nat) (k : Int), (-1 ≤ k ∧ k < sS n D (D + 1)) → (∀ j : Int, k < j → j < sS n D (D + 1) → σ r_Elements_rowsR (o + j) = 0) → (k + 1).toNat < N → en_wp k_X5_greatestIn 15 [some (.inr (.inr (r_Shape0, 0))), some (.inr (.inr (r_Elements_rowsR, o))), some (.inl k)] [] (srl σ []) (fun r σ' => r = some (.inl (sG (fun k => (σ r_Elements_rowsR) (o + k)) (sS n D (D + 1)).toNat)) ∧ σ' = σ) := by
    intro N
    induction N with
    | zero => intro k; intros; omega
    | succ N ih_15 =>
      intro k hk hz hN_15
      refine wp_run 1 (pc' := 16) (ls' := [some (.inr (.inr (r_Shape0, 0))), some (.inr (.inr (r_Elements_rowsR, o))), some (.inl k)]) (st' := [.inl k]) (σ' := srl σ []) rfl ?_
      refine wp_if_lt rfl (by omega) (fun h_1 => ?_) (fun h_1 => ?_)
      · show en_wp k_X5_greatestIn 33 [some (.inr (.inr (r_Shape0, 0))), some (.inr (.inr (r_Elements_rowsR, o))), some (.inl k)] [] (srl σ []) _
        refine wp_run 1 (pc' := 34) (ls' := [some (.inr (.inr (r_Shape0, 0))), some (.inr (.inr (r_Elements_rowsR, o))), some (.inl k)]) (st' := [.inl (-1)]) (σ' := srl σ []) rfl ?_
        exact wp_iret rfl ⟨(by rw [sG_none (f := (fun k => σ r_Elements_rowsR (o + k))) _ (fun j h1 h2 => hz j (by omega) (by omega))]), rfl⟩
      · show en_wp k_X5_greatestIn 19 [some (.inr (.inr (r_Shape0, 0))), some (.inr (.inr (r_Elements_rowsR, o))), some (.inl k)] [] (srl σ []) _
        refine wp_run 2 (pc' := 21) (ls' := [some (.inr (.inr (r_Shape0, 0))), some (.inr (.inr (r_Elements_rowsR, o))), some (.inl k)]) (st' := [.inl k, .inr (.inr (r_Elements_rowsR, o))]) (σ' := srl σ []) rfl ?_
        refine wp_iald rfl rfl (by omega) ?_
        show en_wp k_X5_greatestIn 22 [some (.inr (.inr (r_Shape0, 0))), some (.inr (.inr (r_Elements_rowsR, o))), some (.inl k)] [.inl (σ r_Elements_rowsR (o + k))] (srl σ []) _
        have hx := hE (o + k)
        refine wp_if_eq rfl (by omega) (fun h_2 => ?_) (fun h_2 => ?_)
        · show en_wp k_X5_greatestIn 27 [some (.inr (.inr (r_Shape0, 0))), some (.inr (.inr (r_Elements_rowsR, o))), some (.inl k)] [] (srl σ []) _
          refine wp_run 2 (pc' := 15) (ls' := [some (.inr (.inr (r_Shape0, 0))), some (.inr (.inr (r_Elements_rowsR, o))), some (.inl (k + (-1)))]) (st' := []) (σ' := srl σ []) rfl ?_
          exact ih_15 (k + (-1)) (by omega) (by intro j h1 h2; rcases Int.lt_or_eq_of_le (show k ≤ j by omega) with h9 | h9 <;> first | exact hz j h9 h2 | (rw [← h9]; assumption)) (by omega)
        · show en_wp k_X5_greatestIn 25 [some (.inr (.inr (r_Shape0, 0))), some (.inr (.inr (r_Elements_rowsR, o))), some (.inl k)] [] (srl σ []) _
          refine wp_run 1 (pc' := 26) (ls' := [some (.inr (.inr (r_Shape0, 0))), some (.inr (.inr (r_Elements_rowsR, o))), some (.inl k)]) (st' := [.inl k]) (σ' := srl σ []) rfl ?_
          exact wp_iret rfl ⟨(by rw [sG_top (f := (fun k => σ r_Elements_rowsR (o + k))) (k := k) (by omega) (by assumption) _ (by omega) (fun j h1 h2 => hz j h1 (by omega))]), rfl⟩
  refine wp_run 3 (pc' := 6) (ls' := [some (.inr (.inr (r_Shape0, 0))), some (.inr (.inr (r_Elements_rowsR, o))), none]) (st' := [.inl 8, .inr (.inr (r_Shape0_start, 0))]) (σ' := srl σ []) rfl ?_
  refine wp_iald0 rfl rfl (by omega) ?_
  show en_wp k_X5_greatestIn 7 [some (.inr (.inr (r_Shape0, 0))), some (.inr (.inr (r_Elements_rowsR, o))), none] [.inl (σ r_Shape0_start 8)] (srl σ []) _
  refine wp_run 2 (pc' := 9) (ls' := [some (.inr (.inr (r_Shape0, 0))), some (.inr (.inr (r_Elements_rowsR, o))), none]) (st' := [.inl 364, .inl (σ r_Shape0_start 8)]) (σ' := srl σ []) rfl ?_
  refine wp_min rfl rfl (by omega) (by omega) ?_
  show en_wp k_X5_greatestIn 12 [some (.inr (.inr (r_Shape0, 0))), some (.inr (.inr (r_Elements_rowsR, o))), none] [.inl (min (σ r_Shape0_start 8) 364)] (srl σ []) _
  refine wp_run 3 (pc' := 15) (ls' := [some (.inr (.inr (r_Shape0, 0))), some (.inr (.inr (r_Elements_rowsR, o))), some (.inl ((min (σ r_Shape0_start 8) 364) - 1))]) (st' := []) (σ' := srl σ []) rfl ?_
  exact L_15 _ ((min (σ r_Shape0_start 8) 364) - 1) (by omega) (by intro j h1 h2; omega) (Nat.lt_succ_self _)
theorem ct_X0_has (σ : en_m) (e : Int) (h1 : i32 e) : en_fn z_X0_has [.inr (.inr (r_Elements, 0)), .inl e] σ (.inl (bI (0 ≤ e ∧ e ≤ 5))) := by
  show en_wp k_X0_has 0 [some (.inr (.inr (r_Elements, 0))), some (.inl e)] [] (srl σ []) (fun r σ' => r = some (.inl (bI (0 ≤ e ∧ e ≤ 5))) ∧ σ' = σ)
  refine wp_run 1 (pc' := 1) (ls' := [some (.inr (.inr (r_Elements, 0))), some (.inl e)]) (st' := [.inl e]) (σ' := srl σ []) rfl ?_
  refine wp_if_lt rfl (by omega) (fun h_1 => ?_) (fun h_1 => ?_)
  · show en_wp k_X0_has 14 [some (.inr (.inr (r_Elements, 0))), some (.inl e)] [] (srl σ []) _
    refine wp_run 1 (pc' := 15) (ls' := [some (.inr (.inr (r_Elements, 0))), some (.inl e)]) (st' := [.inl 0]) (σ' := srl σ []) rfl ?_
    exact wp_zret rfl (.inl rfl) ⟨(by first | rw [bI_t (by omega)] | rw [bI_f (by omega)]), rfl⟩
  · show en_wp k_X0_has 4 [some (.inr (.inr (r_Elements, 0))), some (.inl e)] [] (srl σ []) _
    refine wp_run 2 (pc' := 7) (ls' := [some (.inr (.inr (r_Elements, 0))), some (.inl e)]) (st' := [.inl 6, .inl e]) (σ' := srl σ []) rfl ?_
    refine wp_ic_ge rfl (by omega) (by omega) (fun h_2 => ?_) (fun h_2 => ?_)
    · show en_wp k_X0_has 14 [some (.inr (.inr (r_Elements, 0))), some (.inl e)] [] (srl σ []) _
      refine wp_run 1 (pc' := 15) (ls' := [some (.inr (.inr (r_Elements, 0))), some (.inl e)]) (st' := [.inl 0]) (σ' := srl σ []) rfl ?_
      exact wp_zret rfl (.inl rfl) ⟨(by first | rw [bI_t (by omega)] | rw [bI_f (by omega)]), rfl⟩
    · show en_wp k_X0_has 10 [some (.inr (.inr (r_Elements, 0))), some (.inl e)] [] (srl σ []) _
      refine wp_run 2 (pc' := 15) (ls' := [some (.inr (.inr (r_Elements, 0))), some (.inl e)]) (st' := [.inl 1]) (σ' := srl σ []) rfl ?_
      exact wp_zret rfl (.inr rfl) ⟨(by first | rw [bI_t (by omega)] | rw [bI_f (by omega)]), rfl⟩
theorem ct_X0_coefficient (σ : en_m) (e : Int) (k : Int) (h1 : i32 e) (h2 : i32 k) : en_fn z_X0_coefficient [.inr (.inr (r_Elements, 0)), .inl e, .inl k] σ (.inl (if (0 ≤ e ∧ e ≤ 5) ∧ 0 ≤ k ∧ k < 364 then (σ r_Elements_rowsR) (e * 364 + k) else 0)) := by
  show en_wp k_X0_coefficient 0 [some (.inr (.inr (r_Elements, 0))), some (.inl e), some (.inl k)] [] (srl σ []) (fun r σ' => r = some (.inl (if (0 ≤ e ∧ e ≤ 5) ∧ 0 ≤ k ∧ k < 364 then (σ r_Elements_rowsR) (e * 364 + k) else 0)) ∧ σ' = σ)
  refine wp_run 2 (pc' := 2) (ls' := [some (.inr (.inr (r_Elements, 0))), some (.inl e), some (.inl k)]) (st' := [.inl e, .inr (.inr (r_Elements, 0))]) (σ' := srl σ []) rfl ?_
  refine wp_fnv (v := .inl (bI (0 ≤ e ∧ e ≤ 5))) rfl rfl rfl rfl (ct_X0_has σ e (by omega)) ?_
  show en_wp k_X0_coefficient 5 [some (.inr (.inr (r_Elements, 0))), some (.inl e), some (.inl k)] [.inl (bI (0 ≤ e ∧ e ≤ 5))] (srl σ []) _
  refine wp_if_eqb rfl (fun h_1 => ?_) (fun h_1 => ?_)
  · show en_wp k_X0_coefficient 30 [some (.inr (.inr (r_Elements, 0))), some (.inl e), some (.inl k)] [] (srl σ []) _
    refine wp_run 1 (pc' := 31) (ls' := [some (.inr (.inr (r_Elements, 0))), some (.inl e), some (.inl k)]) (st' := [.inl 0]) (σ' := srl σ []) rfl ?_
    exact wp_iret rfl ⟨(by repeat (first | rfl | rw [if_pos (by omega)] | rw [if_neg (by omega)])), rfl⟩
  · show en_wp k_X0_coefficient 8 [some (.inr (.inr (r_Elements, 0))), some (.inl e), some (.inl k)] [] (srl σ []) _
    refine wp_run 1 (pc' := 9) (ls' := [some (.inr (.inr (r_Elements, 0))), some (.inl e), some (.inl k)]) (st' := [.inl k]) (σ' := srl σ []) rfl ?_
    refine wp_if_lt rfl (by omega) (fun h_2 => ?_) (fun h_2 => ?_)
    · show en_wp k_X0_coefficient 30 [some (.inr (.inr (r_Elements, 0))), some (.inl e), some (.inl k)] [] (srl σ []) _
      refine wp_run 1 (pc' := 31) (ls' := [some (.inr (.inr (r_Elements, 0))), some (.inl e), some (.inl k)]) (st' := [.inl 0]) (σ' := srl σ []) rfl ?_
      exact wp_iret rfl ⟨(by repeat (first | rfl | rw [if_pos (by omega)] | rw [if_neg (by omega)])), rfl⟩
    · show en_wp k_X0_coefficient 12 [some (.inr (.inr (r_Elements, 0))), some (.inl e), some (.inl k)] [] (srl σ []) _
      refine wp_run 2 (pc' := 16) (ls' := [some (.inr (.inr (r_Elements, 0))), some (.inl e), some (.inl k)]) (st' := [.inl 364, .inl k]) (σ' := srl σ []) rfl ?_
      refine wp_ic_ge rfl (by omega) (by omega) (fun h_3 => ?_) (fun h_3 => ?_)
      · show en_wp k_X0_coefficient 30 [some (.inr (.inr (r_Elements, 0))), some (.inl e), some (.inl k)] [] (srl σ []) _
        refine wp_run 1 (pc' := 31) (ls' := [some (.inr (.inr (r_Elements, 0))), some (.inl e), some (.inl k)]) (st' := [.inl 0]) (σ' := srl σ []) rfl ?_
        exact wp_iret rfl ⟨(by repeat (first | rfl | rw [if_pos (by omega)] | rw [if_neg (by omega)])), rfl⟩
      · show en_wp k_X0_coefficient 19 [some (.inr (.inr (r_Elements, 0))), some (.inl e), some (.inl k)] [] (srl σ []) _
        refine wp_run 3 (pc' := 24) (ls' := [some (.inr (.inr (r_Elements, 0))), some (.inl e), some (.inl k)]) (st' := [.inl e, .inr (.inr (r_Elements_rows, 0))]) (σ' := srl σ []) rfl ?_
        refine wp_aald (m := 364) rfl rfl rfl (by omega) ?_
        show en_wp k_X0_coefficient 25 [some (.inr (.inr (r_Elements, 0))), some (.inl e), some (.inl k)] [.inr (.inr (r_Elements_rowsR, (e * 364)))] (srl σ []) _
        refine wp_run 1 (pc' := 26) (ls' := [some (.inr (.inr (r_Elements, 0))), some (.inl e), some (.inl k)]) (st' := [.inl k, .inr (.inr (r_Elements_rowsR, (e * 364)))]) (σ' := srl σ []) rfl ?_
        refine wp_iald rfl rfl (by omega) ?_
        show en_wp k_X0_coefficient 27 [some (.inr (.inr (r_Elements, 0))), some (.inl e), some (.inl k)] [.inl (σ r_Elements_rowsR ((e * 364) + k))] (srl σ []) _
        refine wp_run 1 (pc' := 31) (ls' := [some (.inr (.inr (r_Elements, 0))), some (.inl e), some (.inl k)]) (st' := [.inl (σ r_Elements_rowsR ((e * 364) + k))]) (σ' := srl σ []) rfl ?_
        exact wp_iret rfl ⟨(by repeat (first | rfl | rw [if_pos (by omega)] | rw [if_neg (by omega)])), rfl⟩
theorem ct_X0_set (σ : en_m) (n : Int) (D : Int) (p : Int) (e : Int) (k : Int) (c : Int) (hI : cS0 σ n D p) (h1 : i32 e) (h2 : i32 k) (h3 : i32 c) : en_ct z_X0_set [.inr (.inr (r_Elements, 0)), .inl e, .inl k, .inl c] σ (fun r σ' => ∃ (f_Elements_rowsR : Int → Int), r = none ∧ σ' = srl σ [(r_Elements_rowsR, f_Elements_rowsR)] ∧ (f_Elements_rowsR = if (0 ≤ e ∧ e ≤ 5) ∧ 0 ≤ k ∧ k < 364 then up ((σ r_Elements_rowsR)) (e * 364 + k) (c % p) else (σ r_Elements_rowsR))) := by
  show en_wp k_X0_set 0 [some (.inr (.inr (r_Elements, 0))), some (.inl e), some (.inl k), some (.inl c)] [] (srl σ []) (fun r σ' => ∃ (f_Elements_rowsR : Int → Int), r = none ∧ σ' = srl σ [(r_Elements_rowsR, f_Elements_rowsR)] ∧ (f_Elements_rowsR = if (0 ≤ e ∧ e ≤ 5) ∧ 0 ≤ k ∧ k < 364 then up ((σ r_Elements_rowsR)) (e * 364 + k) (c % p) else (σ r_Elements_rowsR)))
  have hI2 := hI
  obtain ⟨hO, hn, hD, hp, hm, hst, hln⟩ := hI2
  obtain ⟨⟨hO1, hO2⟩, ⟨hO3, hO4⟩, hO5, hO6, hO7, hO8⟩ := id hO
  refine wp_run 2 (pc' := 2) (ls' := [some (.inr (.inr (r_Elements, 0))), some (.inl e), some (.inl k), some (.inl c)]) (st' := [.inl e, .inr (.inr (r_Elements, 0))]) (σ' := srl σ []) rfl ?_
  refine wp_fnv (v := .inl (bI (0 ≤ e ∧ e ≤ 5))) rfl rfl rfl rfl (ct_X0_has σ e (by omega)) ?_
  show en_wp k_X0_set 5 [some (.inr (.inr (r_Elements, 0))), some (.inl e), some (.inl k), some (.inl c)] [.inl (bI (0 ≤ e ∧ e ≤ 5))] (srl σ []) _
  refine wp_if_eqb rfl (fun h_1 => ?_) (fun h_1 => ?_)
  · show en_wp k_X0_set 35 [some (.inr (.inr (r_Elements, 0))), some (.inl e), some (.inl k), some (.inl c)] [] (srl σ []) _
    exact wp_vret rfl ⟨(σ r_Elements_rowsR), rfl, srl_eq (l' := [(r_Elements_rowsR, σ r_Elements_rowsR)]) trivial (And.intro rfl trivial), (by first | rw [if_pos (by omega)] | rw [if_neg (by omega)])⟩
  · show en_wp k_X0_set 8 [some (.inr (.inr (r_Elements, 0))), some (.inl e), some (.inl k), some (.inl c)] [] (srl σ []) _
    refine wp_run 1 (pc' := 9) (ls' := [some (.inr (.inr (r_Elements, 0))), some (.inl e), some (.inl k), some (.inl c)]) (st' := [.inl k]) (σ' := srl σ []) rfl ?_
    refine wp_if_lt rfl (by omega) (fun h_2 => ?_) (fun h_2 => ?_)
    · show en_wp k_X0_set 35 [some (.inr (.inr (r_Elements, 0))), some (.inl e), some (.inl k), some (.inl c)] [] (srl σ []) _
      exact wp_vret rfl ⟨(σ r_Elements_rowsR), rfl, srl_eq (l' := [(r_Elements_rowsR, σ r_Elements_rowsR)]) trivial (And.intro rfl trivial), (by first | rw [if_pos (by omega)] | rw [if_neg (by omega)])⟩
    · show en_wp k_X0_set 12 [some (.inr (.inr (r_Elements, 0))), some (.inl e), some (.inl k), some (.inl c)] [] (srl σ []) _
      refine wp_run 2 (pc' := 16) (ls' := [some (.inr (.inr (r_Elements, 0))), some (.inl e), some (.inl k), some (.inl c)]) (st' := [.inl 364, .inl k]) (σ' := srl σ []) rfl ?_
      refine wp_ic_ge rfl (by omega) (by omega) (fun h_3 => ?_) (fun h_3 => ?_)
      · show en_wp k_X0_set 35 [some (.inr (.inr (r_Elements, 0))), some (.inl e), some (.inl k), some (.inl c)] [] (srl σ []) _
        exact wp_vret rfl ⟨(σ r_Elements_rowsR), rfl, srl_eq (l' := [(r_Elements_rowsR, σ r_Elements_rowsR)]) trivial (And.intro rfl trivial), (by first | rw [if_pos (by omega)] | rw [if_neg (by omega)])⟩
      · show en_wp k_X0_set 19 [some (.inr (.inr (r_Elements, 0))), some (.inl e), some (.inl k), some (.inl c)] [] (srl σ []) _
        refine wp_run 3 (pc' := 24) (ls' := [some (.inr (.inr (r_Elements, 0))), some (.inl e), some (.inl k), some (.inl c)]) (st' := [.inl e, .inr (.inr (r_Elements_rows, 0))]) (σ' := srl σ []) rfl ?_
        refine wp_aald (m := 364) rfl rfl rfl (by omega) ?_
        show en_wp k_X0_set 25 [some (.inr (.inr (r_Elements, 0))), some (.inl e), some (.inl k), some (.inl c)] [.inr (.inr (r_Elements_rowsR, (e * 364)))] (srl σ []) _
        refine wp_run 4 (pc' := 31) (ls' := [some (.inr (.inr (r_Elements, 0))), some (.inl e), some (.inl k), some (.inl c)]) (st' := [.inl c, .inr (.inr (r_Shape0, 0)), .inl k, .inr (.inr (r_Elements_rowsR, (e * 364)))]) (σ' := srl σ []) rfl ?_
        refine wp_fnv (v := .inl (c % p)) rfl rfl rfl rfl (ct_X5_rest_Shape0 σ n D p c hI (by omega)) ?_
        show en_wp k_X0_set 34 [some (.inr (.inr (r_Elements, 0))), some (.inl e), some (.inl k), some (.inl c)] [.inl (c % p), .inl k, .inr (.inr (r_Elements_rowsR, (e * 364)))] (srl σ []) _
        have q_4 : 0 ≤ c % p ∧ c % p < p := sR_lt hO.2.2.2
        refine wp_iast rfl rfl (by omega) (wp_wr (l2 := [(r_Elements_rowsR, (up (σ r_Elements_rowsR) ((e * 364) + k) (c % p)))]) rfl ?_)
        show en_wp k_X0_set 35 [some (.inr (.inr (r_Elements, 0))), some (.inl e), some (.inl k), some (.inl c)] [] (srl σ [(r_Elements_rowsR, (up (σ r_Elements_rowsR) ((e * 364) + k) (c % p)))]) _
        exact wp_vret rfl ⟨(up (σ r_Elements_rowsR) ((e * 364) + k) (c % p)), rfl, srl_eq (l' := [(r_Elements_rowsR, (up (σ r_Elements_rowsR) ((e * 364) + k) (c % p)))]) (And.intro rfl trivial) (And.intro rfl trivial), (by first | rw [if_pos (by omega)] | rw [if_neg (by omega)])⟩
theorem ct_X0_amountOf (σ : en_m) (e : Int) (hE : R97 ((σ r_Elements_rowsR))) (h1 : 0 ≤ e ∧ e ≤ 5) : en_fn z_X0_amountOf [.inr (.inr (r_Elements, 0)), .inl e] σ (.inl (sC (fun k => (σ r_Elements_rowsR) (e * 364 + k)) 364)) := by
  show en_wp k_X0_amountOf 0 [some (.inr (.inr (r_Elements, 0))), some (.inl e), none, none] [] (srl σ []) (fun r σ' => r = some (.inl (sC (fun k => (σ r_Elements_rowsR) (e * 364 + k)) 364)) ∧ σ' = σ)
  have L_4 : ∀ (N : Nat) (c : Int) (k : Int), (0 ≤ k ∧ k ≤ 364) → (c = sC (fun k => σ r_Elements_rowsR (e * 364 + k)) k.toNat) → (364 - k).toNat < N → en_wp k_X0_amountOf 4 [some (.inr (.inr (r_Elements, 0))), some (.inl e), some (.inl c), some (.inl k)] [] (srl σ []) (fun r σ' => r = some (.inl (sC (fun k => (σ r_Elements_rowsR) (e * 364 + k)) 364)) ∧ σ' = σ) := by
    intro N
    induction N with
    | zero => intro c k; intros; omega
    | succ N ih_4 =>
      intro c k hk hc hN_4
      refine wp_run 2 (pc' := 8) (ls' := [some (.inr (.inr (r_Elements, 0))), some (.inl e), some (.inl c), some (.inl k)]) (st' := [.inl 364, .inl k]) (σ' := srl σ []) rfl ?_
      refine wp_ic_ge rfl (by omega) (by omega) (fun h_1 => ?_) (fun h_1 => ?_)
      · show en_wp k_X0_amountOf 36 [some (.inr (.inr (r_Elements, 0))), some (.inl e), some (.inl c), some (.inl k)] [] (srl σ []) _
        refine wp_run 1 (pc' := 37) (ls' := [some (.inr (.inr (r_Elements, 0))), some (.inl e), some (.inl c), some (.inl k)]) (st' := [.inl c]) (σ' := srl σ []) rfl ?_
        exact wp_iret rfl ⟨(by rw [hc, show k = 364 by omega]; rfl), rfl⟩
      · show en_wp k_X0_amountOf 11 [some (.inr (.inr (r_Elements, 0))), some (.inl e), some (.inl c), some (.inl k)] [] (srl σ []) _
        refine wp_run 4 (pc' := 17) (ls' := [some (.inr (.inr (r_Elements, 0))), some (.inl e), some (.inl c), some (.inl k)]) (st' := [.inl e, .inr (.inr (r_Elements_rows, 0)), .inl c]) (σ' := srl σ []) rfl ?_
        refine wp_aald (m := 364) rfl rfl rfl (by omega) ?_
        show en_wp k_X0_amountOf 18 [some (.inr (.inr (r_Elements, 0))), some (.inl e), some (.inl c), some (.inl k)] [.inr (.inr (r_Elements_rowsR, (e * 364))), .inl c] (srl σ []) _
        refine wp_run 1 (pc' := 19) (ls' := [some (.inr (.inr (r_Elements, 0))), some (.inl e), some (.inl c), some (.inl k)]) (st' := [.inl k, .inr (.inr (r_Elements_rowsR, (e * 364))), .inl c]) (σ' := srl σ []) rfl ?_
        refine wp_iald rfl rfl (by omega) ?_
        show en_wp k_X0_amountOf 20 [some (.inr (.inr (r_Elements, 0))), some (.inl e), some (.inl c), some (.inl k)] [.inl (σ r_Elements_rowsR ((e * 364) + k)), .inl c] (srl σ []) _
        have hx := hE (e * 364 + k)
        refine wp_if_eq rfl (by omega) (fun h_2 => ?_) (fun h_2 => ?_)
        · show en_wp k_X0_amountOf 27 [some (.inr (.inr (r_Elements, 0))), some (.inl e), some (.inl c), some (.inl k)] [.inl c] (srl σ []) _
          refine wp_run 5 (pc' := 4) (ls' := [some (.inr (.inr (r_Elements, 0))), some (.inl e), some (.inl (c + 0)), some (.inl (k + 1))]) (st' := []) (σ' := srl σ []) rfl ?_
          exact ih_4 (c + 0) (k + 1) (by omega) (by rw [hc, sC_s _ hk.1]; simp [*]) (by omega)
        · show en_wp k_X0_amountOf 23 [some (.inr (.inr (r_Elements, 0))), some (.inl e), some (.inl c), some (.inl k)] [.inl c] (srl σ []) _
          refine wp_run 6 (pc' := 4) (ls' := [some (.inr (.inr (r_Elements, 0))), some (.inl e), some (.inl (c + 1)), some (.inl (k + 1))]) (st' := []) (σ' := srl σ []) rfl ?_
          exact ih_4 (c + 1) (k + 1) (by omega) (by rw [hc, sC_s _ hk.1]; simp [*]) (by omega)
  refine wp_run 4 (pc' := 4) (ls' := [some (.inr (.inr (r_Elements, 0))), some (.inl e), some (.inl 0), some (.inl 0)]) (st' := []) (σ' := srl σ []) rfl ?_
  exact L_4 _ 0 0 (by omega) rfl (Nat.lt_succ_self _)
theorem ct_X0_greatestOf (σ : en_m) (n : Int) (D : Int) (p : Int) (e : Int) (hI : cS0 σ n D p) (hE : R97 ((σ r_Elements_rowsR))) (h1 : 0 ≤ e ∧ e ≤ 5) : en_fn z_X0_greatestOf [.inr (.inr (r_Elements, 0)), .inl e] σ (.inl (if sG (fun k => (σ r_Elements_rowsR) (e * 364 + k)) (sS n D (D + 1)).toNat = -1 then -2 else 1000 * sL n D (sG (fun k => (σ r_Elements_rowsR) (e * 364 + k)) (sS n D (D + 1)).toNat) + (sG (fun k => (σ r_Elements_rowsR) (e * 364 + k)) (sS n D (D + 1)).toNat - sS n D (sL n D (sG (fun k => (σ r_Elements_rowsR) (e * 364 + k)) (sS n D (D + 1)).toNat))))) := by
  show en_wp k_X0_greatestOf 0 [some (.inr (.inr (r_Elements, 0))), some (.inl e), none] [] (srl σ []) (fun r σ' => r = some (.inl (if sG (fun k => (σ r_Elements_rowsR) (e * 364 + k)) (sS n D (D + 1)).toNat = -1 then -2 else 1000 * sL n D (sG (fun k => (σ r_Elements_rowsR) (e * 364 + k)) (sS n D (D + 1)).toNat) + (sG (fun k => (σ r_Elements_rowsR) (e * 364 + k)) (sS n D (D + 1)).toNat - sS n D (sL n D (sG (fun k => (σ r_Elements_rowsR) (e * 364 + k)) (sS n D (D + 1)).toNat))))) ∧ σ' = σ)
  have hI2 := hI
  obtain ⟨hO, hn, hD, hp, hm, hst, hln⟩ := hI2
  obtain ⟨⟨hO1, hO2⟩, ⟨hO3, hO4⟩, hO5, hO6, hO7, hO8⟩ := id hO
  have hAb := sS_b (k := D + 1) hO
  refine wp_run 5 (pc' := 9) (ls' := [some (.inr (.inr (r_Elements, 0))), some (.inl e), none]) (st' := [.inl e, .inr (.inr (r_Elements_rows, 0)), .inr (.inr (r_Shape0, 0))]) (σ' := srl σ []) rfl ?_
  refine wp_aald (m := 364) rfl rfl rfl (by omega) ?_
  show en_wp k_X0_greatestOf 10 [some (.inr (.inr (r_Elements, 0))), some (.inl e), none] [.inr (.inr (r_Elements_rowsR, (e * 364))), .inr (.inr (r_Shape0, 0))] (srl σ []) _
  refine wp_fnv (v := .inl (sG (fun k => (σ r_Elements_rowsR) ((e * 364) + k)) (sS n D (D + 1)).toNat)) rfl rfl rfl rfl (ct_X5_greatestIn_Shape0_Elements_rowsR σ n D p (e * 364) hI hE) ?_
  show en_wp k_X0_greatestOf 13 [some (.inr (.inr (r_Elements, 0))), some (.inl e), none] [.inl (sG (fun k => (σ r_Elements_rowsR) ((e * 364) + k)) (sS n D (D + 1)).toNat)] (srl σ []) _
  have q_1 : -1 ≤ sG (fun k => (σ r_Elements_rowsR) ((e * 364) + k)) (sS n D (D + 1)).toNat ∧ sG (fun k => (σ r_Elements_rowsR) ((e * 364) + k)) (sS n D (D + 1)).toNat < sS n D (D + 1) := sG_bb hO
  refine wp_run 3 (pc' := 16) (ls' := [some (.inr (.inr (r_Elements, 0))), some (.inl e), some (.inl (sG (fun k => (σ r_Elements_rowsR) ((e * 364) + k)) (sS n D (D + 1)).toNat))]) (st' := [.inl (-1), .inl (sG (fun k => (σ r_Elements_rowsR) ((e * 364) + k)) (sS n D (D + 1)).toNat)]) (σ' := srl σ []) rfl ?_
  refine wp_ic_ne rfl (by omega) (by omega) (fun h_2 => ?_) (fun h_2 => ?_)
  · show en_wp k_X0_greatestOf 24 [some (.inr (.inr (r_Elements, 0))), some (.inl e), some (.inl (sG (fun k => (σ r_Elements_rowsR) ((e * 364) + k)) (sS n D (D + 1)).toNat))] [] (srl σ []) _
    refine wp_run 3 (pc' := 29) (ls' := [some (.inr (.inr (r_Elements, 0))), some (.inl e), some (.inl (sG (fun k => (σ r_Elements_rowsR) ((e * 364) + k)) (sS n D (D + 1)).toNat))]) (st' := [.inl (sG (fun k => (σ r_Elements_rowsR) ((e * 364) + k)) (sS n D (D + 1)).toNat), .inr (.inr (r_Shape0, 0))]) (σ' := srl σ []) rfl ?_
    refine wp_fnv (v := .inl (1000 * sL n D (sG (fun k => (σ r_Elements_rowsR) ((e * 364) + k)) (sS n D (D + 1)).toNat) + ((sG (fun k => (σ r_Elements_rowsR) ((e * 364) + k)) (sS n D (D + 1)).toNat) - sS n D (sL n D (sG (fun k => (σ r_Elements_rowsR) ((e * 364) + k)) (sS n D (D + 1)).toNat))))) rfl rfl rfl rfl (ct_X5_codeAt_Shape0 σ n D p (sG (fun k => (σ r_Elements_rowsR) ((e * 364) + k)) (sS n D (D + 1)).toNat) hI (by omega)) ?_
    show en_wp k_X0_greatestOf 32 [some (.inr (.inr (r_Elements, 0))), some (.inl e), some (.inl (sG (fun k => (σ r_Elements_rowsR) ((e * 364) + k)) (sS n D (D + 1)).toNat))] [.inl (1000 * sL n D (sG (fun k => (σ r_Elements_rowsR) ((e * 364) + k)) (sS n D (D + 1)).toNat) + ((sG (fun k => (σ r_Elements_rowsR) ((e * 364) + k)) (sS n D (D + 1)).toNat) - sS n D (sL n D (sG (fun k => (σ r_Elements_rowsR) ((e * 364) + k)) (sS n D (D + 1)).toNat))))] (srl σ []) _
    exact wp_iret rfl ⟨(by repeat (first | rfl | rw [if_pos (by omega)] | rw [if_neg (by omega)])), rfl⟩
  · show en_wp k_X0_greatestOf 19 [some (.inr (.inr (r_Elements, 0))), some (.inl e), some (.inl (sG (fun k => (σ r_Elements_rowsR) ((e * 364) + k)) (sS n D (D + 1)).toNat))] [] (srl σ []) _
    refine wp_run 2 (pc' := 32) (ls' := [some (.inr (.inr (r_Elements, 0))), some (.inl e), some (.inl (sG (fun k => (σ r_Elements_rowsR) ((e * 364) + k)) (sS n D (D + 1)).toNat))]) (st' := [.inl (-2)]) (σ' := srl σ []) rfl ?_
    exact wp_iret rfl ⟨(by repeat (first | rfl | rw [if_pos (by omega)] | rw [if_neg (by omega)])), rfl⟩
theorem ct_X0_combine (σ : en_m) (n : Int) (D : Int) (p : Int) (to : Int) (a : Int) (b : Int) (c : Int) (hI : cS0 σ n D p) (hE : R97 ((σ r_Elements_rowsR))) (h1 : 0 ≤ to ∧ to ≤ 5) (h2 : 0 ≤ a ∧ a ≤ 5) (h3 : 0 ≤ b ∧ b ≤ 5) (h4 : i32 c) : en_ct z_X0_combine [.inr (.inr (r_Elements, 0)), .inl to, .inl a, .inl b, .inl c] σ (fun r σ' => r = none ∧ σ' = srl σ [(r_Elements_rowsR, (seg (σ r_Elements_rowsR) (to * 364) 364 (fun k => ((σ r_Elements_rowsR) (a * 364 + k) + (c % p) * (σ r_Elements_rowsR) (b * 364 + k)) % p)))]) := by
  show en_wp k_X0_combine 0 [some (.inr (.inr (r_Elements, 0))), some (.inl to), some (.inl a), some (.inl b), some (.inl c), none, none] [] (srl σ []) (fun r σ' => r = none ∧ σ' = srl σ [(r_Elements_rowsR, (seg (σ r_Elements_rowsR) (to * 364) 364 (fun k => ((σ r_Elements_rowsR) (a * 364 + k) + (c % p) * (σ r_Elements_rowsR) (b * 364 + k)) % p)))])
  have hI2 := hI
  obtain ⟨hO, hn, hD, hp, hm, hst, hln⟩ := hI2
  obtain ⟨⟨hO1, hO2⟩, ⟨hO3, hO4⟩, hO5, hO6, hO7, hO8⟩ := id hO
  have L_14 : ∀ (N : Nat) (k : Int) (Y : Int → Int), (0 ≤ k ∧ k ≤ 364) → (Y = seg (σ r_Elements_rowsR) (to * 364) k (fun k => (σ r_Elements_rowsR (a * 364 + k) + c % p * σ r_Elements_rowsR (b * 364 + k)) % p)) → (364 - k).toNat < N → en_wp k_X0_combine 14 [some (.inr (.inr (r_Elements, 0))), some (.inl to), some (.inl a), some (.inl b), some (.inl c), some (.inl (c % p)), some (.inl k)] [] (srl σ [(r_Elements_rowsR, Y)]) (fun r σ' => r = none ∧ σ' = srl σ [(r_Elements_rowsR, (seg (σ r_Elements_rowsR) (to * 364) 364 (fun k => ((σ r_Elements_rowsR) (a * 364 + k) + (c % p) * (σ r_Elements_rowsR) (b * 364 + k)) % p)))]) := by
    intro N
    induction N with
    | zero => intro k Y; intros; omega
    | succ N ih_14 =>
      intro k Y hk hY hN_14
      have hcb := @sR_lt p c hO.2.2.2
      refine wp_run 2 (pc' := 19) (ls' := [some (.inr (.inr (r_Elements, 0))), some (.inl to), some (.inl a), some (.inl b), some (.inl c), some (.inl (c % p)), some (.inl k)]) (st' := [.inl 364, .inl k]) (σ' := srl σ [(r_Elements_rowsR, Y)]) rfl ?_
      refine wp_ic_ge rfl (by omega) (by omega) (fun h_1 => ?_) (fun h_1 => ?_)
      · show en_wp k_X0_combine 66 [some (.inr (.inr (r_Elements, 0))), some (.inl to), some (.inl a), some (.inl b), some (.inl c), some (.inl (c % p)), some (.inl k)] [] (srl σ [(r_Elements_rowsR, Y)]) _
        exact wp_vret rfl ⟨rfl, (by rw [hY, show k = 364 by omega])⟩
      · show en_wp k_X0_combine 22 [some (.inr (.inr (r_Elements, 0))), some (.inl to), some (.inl a), some (.inl b), some (.inl c), some (.inl (c % p)), some (.inl k)] [] (srl σ [(r_Elements_rowsR, Y)]) _
        refine wp_run 3 (pc' := 27) (ls' := [some (.inr (.inr (r_Elements, 0))), some (.inl to), some (.inl a), some (.inl b), some (.inl c), some (.inl (c % p)), some (.inl k)]) (st' := [.inl to, .inr (.inr (r_Elements_rows, 0))]) (σ' := srl σ [(r_Elements_rowsR, Y)]) rfl ?_
        refine wp_aald (m := 364) rfl rfl rfl (by omega) ?_
        show en_wp k_X0_combine 28 [some (.inr (.inr (r_Elements, 0))), some (.inl to), some (.inl a), some (.inl b), some (.inl c), some (.inl (c % p)), some (.inl k)] [.inr (.inr (r_Elements_rowsR, (to * 364)))] (srl σ [(r_Elements_rowsR, Y)]) _
        refine wp_run 6 (pc' := 39) (ls' := [some (.inr (.inr (r_Elements, 0))), some (.inl to), some (.inl a), some (.inl b), some (.inl c), some (.inl (c % p)), some (.inl k)]) (st' := [.inl a, .inr (.inr (r_Elements_rows, 0)), .inr (.inr (r_Shape0, 0)), .inl k, .inr (.inr (r_Elements_rowsR, (to * 364)))]) (σ' := srl σ [(r_Elements_rowsR, Y)]) rfl ?_
        refine wp_aald (m := 364) rfl rfl rfl (by omega) ?_
        show en_wp k_X0_combine 40 [some (.inr (.inr (r_Elements, 0))), some (.inl to), some (.inl a), some (.inl b), some (.inl c), some (.inl (c % p)), some (.inl k)] [.inr (.inr (r_Elements_rowsR, (a * 364))), .inr (.inr (r_Shape0, 0)), .inl k, .inr (.inr (r_Elements_rowsR, (to * 364)))] (srl σ [(r_Elements_rowsR, Y)]) _
        refine wp_run 1 (pc' := 42) (ls' := [some (.inr (.inr (r_Elements, 0))), some (.inl to), some (.inl a), some (.inl b), some (.inl c), some (.inl (c % p)), some (.inl k)]) (st' := [.inl k, .inr (.inr (r_Elements_rowsR, (a * 364))), .inr (.inr (r_Shape0, 0)), .inl k, .inr (.inr (r_Elements_rowsR, (to * 364)))]) (σ' := srl σ [(r_Elements_rowsR, Y)]) rfl ?_
        refine wp_iald rfl rfl (by omega) ?_
        show en_wp k_X0_combine 43 [some (.inr (.inr (r_Elements, 0))), some (.inl to), some (.inl a), some (.inl b), some (.inl c), some (.inl (c % p)), some (.inl k)] [.inl (Y ((a * 364) + k)), .inr (.inr (r_Shape0, 0)), .inl k, .inr (.inr (r_Elements_rowsR, (to * 364)))] (srl σ [(r_Elements_rowsR, Y)]) _
        refine wp_run 4 (pc' := 50) (ls' := [some (.inr (.inr (r_Elements, 0))), some (.inl to), some (.inl a), some (.inl b), some (.inl c), some (.inl (c % p)), some (.inl k)]) (st' := [.inl b, .inr (.inr (r_Elements_rows, 0)), .inl (c % p), .inl (Y ((a * 364) + k)), .inr (.inr (r_Shape0, 0)), .inl k, .inr (.inr (r_Elements_rowsR, (to * 364)))]) (σ' := srl σ [(r_Elements_rowsR, Y)]) rfl ?_
        refine wp_aald (m := 364) rfl rfl rfl (by omega) ?_
        show en_wp k_X0_combine 51 [some (.inr (.inr (r_Elements, 0))), some (.inl to), some (.inl a), some (.inl b), some (.inl c), some (.inl (c % p)), some (.inl k)] [.inr (.inr (r_Elements_rowsR, (b * 364))), .inl (c % p), .inl (Y ((a * 364) + k)), .inr (.inr (r_Shape0, 0)), .inl k, .inr (.inr (r_Elements_rowsR, (to * 364)))] (srl σ [(r_Elements_rowsR, Y)]) _
        refine wp_run 1 (pc' := 53) (ls' := [some (.inr (.inr (r_Elements, 0))), some (.inl to), some (.inl a), some (.inl b), some (.inl c), some (.inl (c % p)), some (.inl k)]) (st' := [.inl k, .inr (.inr (r_Elements_rowsR, (b * 364))), .inl (c % p), .inl (Y ((a * 364) + k)), .inr (.inr (r_Shape0, 0)), .inl k, .inr (.inr (r_Elements_rowsR, (to * 364)))]) (σ' := srl σ [(r_Elements_rowsR, Y)]) rfl ?_
        have hya : Y (a * 364 + k) = σ r_Elements_rowsR (a * 364 + k) := by rw [hY]; exact seg_out (by omega)
        have hyb : Y (b * 364 + k) = σ r_Elements_rowsR (b * 364 + k) := by rw [hY]; exact seg_out (by omega)
        have hea := hE (a * 364 + k)
        have heb := hE (b * 364 + k)
        have hm1 := m97 (a := c % p) (b := Y (b * 364 + k)) (by omega) (by rw [hyb]; exact heb)
        refine wp_iald rfl rfl (by omega) ?_
        show en_wp k_X0_combine 54 [some (.inr (.inr (r_Elements, 0))), some (.inl to), some (.inl a), some (.inl b), some (.inl c), some (.inl (c % p)), some (.inl k)] [.inl (Y ((b * 364) + k)), .inl (c % p), .inl (Y ((a * 364) + k)), .inr (.inr (r_Shape0, 0)), .inl k, .inr (.inr (r_Elements_rowsR, (to * 364)))] (srl σ [(r_Elements_rowsR, Y)]) _
        refine wp_run 2 (pc' := 56) (ls' := [some (.inr (.inr (r_Elements, 0))), some (.inl to), some (.inl a), some (.inl b), some (.inl c), some (.inl (c % p)), some (.inl k)]) (st' := [.inl ((Y ((a * 364) + k)) + ((c % p) * (Y ((b * 364) + k)))), .inr (.inr (r_Shape0, 0)), .inl k, .inr (.inr (r_Elements_rowsR, (to * 364)))]) (σ' := srl σ [(r_Elements_rowsR, Y)]) rfl ?_
        refine wp_fnv (v := .inl (((Y ((a * 364) + k)) + ((c % p) * (Y ((b * 364) + k)))) % p)) rfl rfl rfl rfl (ct_X5_rest_Shape0 (srl σ [(r_Elements_rowsR, Y)]) n D p ((Y ((a * 364) + k)) + ((c % p) * (Y ((b * 364) + k)))) hI (by omega)) ?_
        show en_wp k_X0_combine 59 [some (.inr (.inr (r_Elements, 0))), some (.inl to), some (.inl a), some (.inl b), some (.inl c), some (.inl (c % p)), some (.inl k)] [.inl (((Y ((a * 364) + k)) + ((c % p) * (Y ((b * 364) + k)))) % p), .inl k, .inr (.inr (r_Elements_rowsR, (to * 364)))] (srl σ [(r_Elements_rowsR, Y)]) _
        have q_2 : 0 ≤ ((Y ((a * 364) + k)) + ((c % p) * (Y ((b * 364) + k)))) % p ∧ ((Y ((a * 364) + k)) + ((c % p) * (Y ((b * 364) + k)))) % p < p := sR_lt hO.2.2.2
        refine wp_iast rfl rfl (by omega) (wp_wr (l2 := [(r_Elements_rowsR, (up Y ((to * 364) + k) (((Y ((a * 364) + k)) + ((c % p) * (Y ((b * 364) + k)))) % p)))]) rfl ?_)
        show en_wp k_X0_combine 60 [some (.inr (.inr (r_Elements, 0))), some (.inl to), some (.inl a), some (.inl b), some (.inl c), some (.inl (c % p)), some (.inl k)] [] (srl σ [(r_Elements_rowsR, (up Y ((to * 364) + k) (((Y ((a * 364) + k)) + ((c % p) * (Y ((b * 364) + k)))) % p)))]) _
        refine wp_run 2 (pc' := 14) (ls' := [some (.inr (.inr (r_Elements, 0))), some (.inl to), some (.inl a), some (.inl b), some (.inl c), some (.inl (c % p)), some (.inl (k + 1))]) (st' := []) (σ' := srl σ [(r_Elements_rowsR, (up Y ((to * 364) + k) (((Y ((a * 364) + k)) + ((c % p) * (Y ((b * 364) + k)))) % p)))]) rfl ?_
        exact ih_14 (k + 1) (up Y ((to * 364) + k) (((Y ((a * 364) + k)) + ((c % p) * (Y ((b * 364) + k)))) % p)) (by omega) (by rw [hya, hyb, hY]; exact seg_up hk.1 rfl) (by omega)
  refine wp_run 3 (pc' := 6) (ls' := [some (.inr (.inr (r_Elements, 0))), some (.inl to), some (.inl a), some (.inl b), some (.inl c), none, none]) (st' := [.inl c, .inr (.inr (r_Shape0, 0))]) (σ' := srl σ []) rfl ?_
  refine wp_fnv (v := .inl (c % p)) rfl rfl rfl rfl (ct_X5_rest_Shape0 σ n D p c hI (by omega)) ?_
  show en_wp k_X0_combine 9 [some (.inr (.inr (r_Elements, 0))), some (.inl to), some (.inl a), some (.inl b), some (.inl c), none, none] [.inl (c % p)] (srl σ []) _
  have q_3 : 0 ≤ c % p ∧ c % p < p := sR_lt hO.2.2.2
  refine wp_run 3 (pc' := 14) (ls' := [some (.inr (.inr (r_Elements, 0))), some (.inl to), some (.inl a), some (.inl b), some (.inl c), some (.inl (c % p)), some (.inl 0)]) (st' := []) (σ' := srl σ []) rfl ?_
  refine wp_mem (srl_eq (l' := [(r_Elements_rowsR, (σ r_Elements_rowsR))]) trivial (And.intro rfl trivial)) ?_
  exact L_14 _ 0 (σ r_Elements_rowsR) (by omega) (seg_0 _ _ _).symm (Nat.lt_succ_self _)
theorem ct_X0_keep (σ : en_m) (s : Int) (h1 : i32 s) : en_ct z_X0_keep [.inr (.inr (r_Elements, 0)), .inl s] σ (fun r σ' => ∃ (f_Elements_slotRowsR : Int → Int), ∃ (f_Elements_isKept : Int → Int), r = some (.inl (bI (0 ≤ s ∧ s ≤ 2))) ∧ σ' = srl σ [(r_Elements_slotRowsR, f_Elements_slotRowsR), (r_Elements_isKept, f_Elements_isKept)] ∧ (f_Elements_slotRowsR = if 0 ≤ s ∧ s ≤ 2 then seg ((σ r_Elements_slotRowsR)) (s * 2184) 2184 (fun k => (σ r_Elements_rowsR) k) else (σ r_Elements_slotRowsR)) ∧ (f_Elements_isKept = if 0 ≤ s ∧ s ≤ 2 then up ((σ r_Elements_isKept)) s 1 else (σ r_Elements_isKept))) := by
  show en_wp k_X0_keep 0 [some (.inr (.inr (r_Elements, 0))), some (.inl s), none] [] (srl σ []) (fun r σ' => ∃ (f_Elements_slotRowsR : Int → Int), ∃ (f_Elements_isKept : Int → Int), r = some (.inl (bI (0 ≤ s ∧ s ≤ 2))) ∧ σ' = srl σ [(r_Elements_slotRowsR, f_Elements_slotRowsR), (r_Elements_isKept, f_Elements_isKept)] ∧ (f_Elements_slotRowsR = if 0 ≤ s ∧ s ≤ 2 then seg ((σ r_Elements_slotRowsR)) (s * 2184) 2184 (fun k => (σ r_Elements_rowsR) k) else (σ r_Elements_slotRowsR)) ∧ (f_Elements_isKept = if 0 ≤ s ∧ s ≤ 2 then up ((σ r_Elements_isKept)) s 1 else (σ r_Elements_isKept)))
  have L_13 : ∀ (N : Nat) (e : Int) (X : Int → Int), (0 ≤ s ∧ s ≤ 2) → (0 ≤ e ∧ e ≤ 6) → (X = seg (σ r_Elements_slotRowsR) (s * 2184) (e * 364) (fun k => σ r_Elements_rowsR k)) → (6 - e).toNat < N → en_wp k_X0_keep 13 [some (.inr (.inr (r_Elements, 0))), some (.inl s), some (.inl e)] [] (srl σ [(r_Elements_slotRowsR, X)]) (fun r σ' => ∃ (f_Elements_slotRowsR : Int → Int), ∃ (f_Elements_isKept : Int → Int), r = some (.inl (bI (0 ≤ s ∧ s ≤ 2))) ∧ σ' = srl σ [(r_Elements_slotRowsR, f_Elements_slotRowsR), (r_Elements_isKept, f_Elements_isKept)] ∧ (f_Elements_slotRowsR = if 0 ≤ s ∧ s ≤ 2 then seg ((σ r_Elements_slotRowsR)) (s * 2184) 2184 (fun k => (σ r_Elements_rowsR) k) else (σ r_Elements_slotRowsR)) ∧ (f_Elements_isKept = if 0 ≤ s ∧ s ≤ 2 then up ((σ r_Elements_isKept)) s 1 else (σ r_Elements_isKept))) := by
    intro N
    induction N with
    | zero => intro e X; intros; omega
    | succ N ih_13 =>
      intro e X hs hk hX hN_13
      refine wp_run 2 (pc' := 16) (ls' := [some (.inr (.inr (r_Elements, 0))), some (.inl s), some (.inl e)]) (st' := [.inl 6, .inl e]) (σ' := srl σ [(r_Elements_slotRowsR, X)]) rfl ?_
      refine wp_ic_ge rfl (by omega) (by omega) (fun h_1 => ?_) (fun h_1 => ?_)
      · show en_wp k_X0_keep 50 [some (.inr (.inr (r_Elements, 0))), some (.inl s), some (.inl e)] [] (srl σ [(r_Elements_slotRowsR, X)]) _
        refine wp_run 4 (pc' := 56) (ls' := [some (.inr (.inr (r_Elements, 0))), some (.inl s), some (.inl e)]) (st' := [.inl 1, .inl s, .inr (.inr (r_Elements_isKept, 0))]) (σ' := srl σ [(r_Elements_slotRowsR, X)]) rfl ?_
        refine wp_bast0 rfl rfl (by omega) (by omega) (wp_wr (l2 := [(r_Elements_slotRowsR, X), (r_Elements_isKept, (up (σ r_Elements_isKept) s 1))]) rfl ?_)
        show en_wp k_X0_keep 57 [some (.inr (.inr (r_Elements, 0))), some (.inl s), some (.inl e)] [] (srl σ [(r_Elements_slotRowsR, X), (r_Elements_isKept, (up (σ r_Elements_isKept) s 1))]) _
        refine wp_run 1 (pc' := 58) (ls' := [some (.inr (.inr (r_Elements, 0))), some (.inl s), some (.inl e)]) (st' := [.inl 1]) (σ' := srl σ [(r_Elements_slotRowsR, X), (r_Elements_isKept, (up (σ r_Elements_isKept) s 1))]) rfl ?_
        exact wp_zret rfl (.inr rfl) ⟨X, (up (σ r_Elements_isKept) s 1), (by first | rfl | (rw [bI_t (by omega)]) | (rw [bI_f (by omega)])), srl_eq (l' := [(r_Elements_slotRowsR, X), (r_Elements_isKept, (up (σ r_Elements_isKept) s 1))]) (And.intro rfl (And.intro rfl trivial)) (And.intro rfl (And.intro rfl trivial)), ⟨by first | rw [if_pos (by omega), hX, show e * 364 = 2184 by omega] | rw [if_neg (by omega)], by first | rw [if_pos (by omega)] | rw [if_neg (by omega)]⟩⟩
      · show en_wp k_X0_keep 19 [some (.inr (.inr (r_Elements, 0))), some (.inl s), some (.inl e)] [] (srl σ [(r_Elements_slotRowsR, X)]) _
        refine wp_run 3 (pc' := 24) (ls' := [some (.inr (.inr (r_Elements, 0))), some (.inl s), some (.inl e)]) (st' := [.inl e, .inr (.inr (r_Elements_rows, 0))]) (σ' := srl σ [(r_Elements_slotRowsR, X)]) rfl ?_
        refine wp_aald (m := 364) rfl rfl rfl (by omega) ?_
        show en_wp k_X0_keep 25 [some (.inr (.inr (r_Elements, 0))), some (.inl s), some (.inl e)] [.inr (.inr (r_Elements_rowsR, (e * 364)))] (srl σ [(r_Elements_slotRowsR, X)]) _
        refine wp_run 8 (pc' := 36) (ls' := [some (.inr (.inr (r_Elements, 0))), some (.inl s), some (.inl e)]) (st' := [.inl ((s * 6) + e), .inr (.inr (r_Elements_slotRows, 0)), .inl 0, .inr (.inr (r_Elements_rowsR, (e * 364)))]) (σ' := srl σ [(r_Elements_slotRowsR, X)]) rfl ?_
        refine wp_aald (m := 364) rfl rfl rfl (by omega) ?_
        show en_wp k_X0_keep 37 [some (.inr (.inr (r_Elements, 0))), some (.inl s), some (.inl e)] [.inr (.inr (r_Elements_slotRowsR, (((s * 6) + e) * 364))), .inl 0, .inr (.inr (r_Elements_rowsR, (e * 364)))] (srl σ [(r_Elements_slotRowsR, X)]) _
        refine wp_run 2 (pc' := 41) (ls' := [some (.inr (.inr (r_Elements, 0))), some (.inl s), some (.inl e)]) (st' := [.inl 364, .inl 0, .inr (.inr (r_Elements_slotRowsR, (((s * 6) + e) * 364))), .inl 0, .inr (.inr (r_Elements_rowsR, (e * 364)))]) (σ' := srl σ [(r_Elements_slotRowsR, X)]) rfl ?_
        refine wp_copy rfl rfl rfl rfl (by omega) (by omega) (by omega) (wp_wr (l2 := [(r_Elements_slotRowsR, (en_cpy (σ r_Elements_rowsR) X ((e * 364) + 0) ((((s * 6) + e) * 364) + 0) 364))]) rfl ?_)
        show en_wp k_X0_keep 44 [some (.inr (.inr (r_Elements, 0))), some (.inl s), some (.inl e)] [] (srl σ [(r_Elements_slotRowsR, (en_cpy (σ r_Elements_rowsR) X ((e * 364) + 0) ((((s * 6) + e) * 364) + 0) 364))]) _
        refine wp_run 2 (pc' := 13) (ls' := [some (.inr (.inr (r_Elements, 0))), some (.inl s), some (.inl (e + 1))]) (st' := []) (σ' := srl σ [(r_Elements_slotRowsR, (en_cpy (σ r_Elements_rowsR) X ((e * 364) + 0) ((((s * 6) + e) * 364) + 0) 364))]) rfl ?_
        exact ih_13 (e + 1) (en_cpy (σ r_Elements_rowsR) X ((e * 364) + 0) ((((s * 6) + e) * 364) + 0) 364) (by omega) (by omega) (by rw [hX, show (e + 1) * 364 = e * 364 + 364 by omega]; exact cpy_seg (by omega) (by omega) (by omega) (fun j _ _ => by rw [show e * 364 + 0 + j = e * 364 + j by omega])) (by omega)
  refine wp_run 1 (pc' := 1) (ls' := [some (.inr (.inr (r_Elements, 0))), some (.inl s), none]) (st' := [.inl s]) (σ' := srl σ []) rfl ?_
  refine wp_if_lt rfl (by omega) (fun h_2 => ?_) (fun h_2 => ?_)
  · show en_wp k_X0_keep 9 [some (.inr (.inr (r_Elements, 0))), some (.inl s), none] [] (srl σ []) _
    refine wp_run 1 (pc' := 10) (ls' := [some (.inr (.inr (r_Elements, 0))), some (.inl s), none]) (st' := [.inl 0]) (σ' := srl σ []) rfl ?_
    exact wp_zret rfl (.inl rfl) ⟨(σ r_Elements_slotRowsR), (σ r_Elements_isKept), (by first | rfl | (rw [bI_t (by omega)]) | (rw [bI_f (by omega)])), srl_eq (l' := [(r_Elements_slotRowsR, σ r_Elements_slotRowsR), (r_Elements_isKept, σ r_Elements_isKept)]) trivial (And.intro rfl (And.intro rfl trivial)), ⟨by first | rw [if_pos (by omega), hX, show e * 364 = 2184 by omega] | rw [if_neg (by omega)], by first | rw [if_pos (by omega)] | rw [if_neg (by omega)]⟩⟩
  · show en_wp k_X0_keep 4 [some (.inr (.inr (r_Elements, 0))), some (.inl s), none] [] (srl σ []) _
    refine wp_run 2 (pc' := 6) (ls' := [some (.inr (.inr (r_Elements, 0))), some (.inl s), none]) (st' := [.inl 3, .inl s]) (σ' := srl σ []) rfl ?_
    refine wp_ic_lt rfl (by omega) (by omega) (fun h_3 => ?_) (fun h_3 => ?_)
    · show en_wp k_X0_keep 11 [some (.inr (.inr (r_Elements, 0))), some (.inl s), none] [] (srl σ []) _
      refine wp_run 2 (pc' := 13) (ls' := [some (.inr (.inr (r_Elements, 0))), some (.inl s), some (.inl 0)]) (st' := []) (σ' := srl σ []) rfl ?_
      refine wp_mem (srl_eq (l' := [(r_Elements_slotRowsR, (σ r_Elements_slotRowsR))]) trivial (And.intro rfl trivial)) ?_
      exact L_13 _ 0 (σ r_Elements_slotRowsR) (by omega) (by omega) (by rw [Int.zero_mul]; exact (seg_0 _ _ _).symm) (Nat.lt_succ_self _)
    · show en_wp k_X0_keep 9 [some (.inr (.inr (r_Elements, 0))), some (.inl s), none] [] (srl σ []) _
      refine wp_run 1 (pc' := 10) (ls' := [some (.inr (.inr (r_Elements, 0))), some (.inl s), none]) (st' := [.inl 0]) (σ' := srl σ []) rfl ?_
      exact wp_zret rfl (.inl rfl) ⟨(σ r_Elements_slotRowsR), (σ r_Elements_isKept), (by first | rfl | (rw [bI_t (by omega)]) | (rw [bI_f (by omega)])), srl_eq (l' := [(r_Elements_slotRowsR, σ r_Elements_slotRowsR), (r_Elements_isKept, σ r_Elements_isKept)]) trivial (And.intro rfl (And.intro rfl trivial)), ⟨by first | rw [if_pos (by omega), hX, show e * 364 = 2184 by omega] | rw [if_neg (by omega)], by first | rw [if_pos (by omega)] | rw [if_neg (by omega)]⟩⟩
theorem ct_X0_takeBack (σ : en_m) (s : Int) (h1 : i32 s) (hH : R01 ((σ r_Elements_isKept))) : en_ct z_X0_takeBack [.inr (.inr (r_Elements, 0)), .inl s] σ (fun r σ' => ∃ (f_Elements_rowsR : Int → Int), r = some (.inl (bI ((0 ≤ s ∧ s ≤ 2) ∧ ¬ (σ r_Elements_isKept) s = 0))) ∧ σ' = srl σ [(r_Elements_rowsR, f_Elements_rowsR)] ∧ (f_Elements_rowsR = if (0 ≤ s ∧ s ≤ 2) ∧ ¬ (σ r_Elements_isKept) s = 0 then seg (σ r_Elements_rowsR) 0 2184 (fun k => (σ r_Elements_slotRowsR) (s * 2184 + k)) else (σ r_Elements_rowsR))) := by
  show en_wp k_X0_takeBack 0 [some (.inr (.inr (r_Elements, 0))), some (.inl s), none] [] (srl σ []) (fun r σ' => ∃ (f_Elements_rowsR : Int → Int), r = some (.inl (bI ((0 ≤ s ∧ s ≤ 2) ∧ ¬ (σ r_Elements_isKept) s = 0))) ∧ σ' = srl σ [(r_Elements_rowsR, f_Elements_rowsR)] ∧ (f_Elements_rowsR = if (0 ≤ s ∧ s ≤ 2) ∧ ¬ (σ r_Elements_isKept) s = 0 then seg (σ r_Elements_rowsR) 0 2184 (fun k => (σ r_Elements_slotRowsR) (s * 2184 + k)) else (σ r_Elements_rowsR)))
  have L_22 : ∀ (N : Nat) (e : Int) (X : Int → Int), ((0 ≤ s ∧ s ≤ 2) ∧ ¬ σ r_Elements_isKept s = 0) → (0 ≤ e ∧ e ≤ 6) → (X = seg (σ r_Elements_rowsR) 0 (e * 364) (fun k => σ r_Elements_slotRowsR (s * 2184 + k))) → (6 - e).toNat < N → en_wp k_X0_takeBack 22 [some (.inr (.inr (r_Elements, 0))), some (.inl s), some (.inl e)] [] (srl σ [(r_Elements_rowsR, X)]) (fun r σ' => ∃ (f_Elements_rowsR : Int → Int), r = some (.inl (bI ((0 ≤ s ∧ s ≤ 2) ∧ ¬ (σ r_Elements_isKept) s = 0))) ∧ σ' = srl σ [(r_Elements_rowsR, f_Elements_rowsR)] ∧ (f_Elements_rowsR = if (0 ≤ s ∧ s ≤ 2) ∧ ¬ (σ r_Elements_isKept) s = 0 then seg (σ r_Elements_rowsR) 0 2184 (fun k => (σ r_Elements_slotRowsR) (s * 2184 + k)) else (σ r_Elements_rowsR))) := by
    intro N
    induction N with
    | zero => intro e X; intros; omega
    | succ N ih_22 =>
      intro e X hs hk hX hN_22
      refine wp_run 2 (pc' := 25) (ls' := [some (.inr (.inr (r_Elements, 0))), some (.inl s), some (.inl e)]) (st' := [.inl 6, .inl e]) (σ' := srl σ [(r_Elements_rowsR, X)]) rfl ?_
      refine wp_ic_ge rfl (by omega) (by omega) (fun h_1 => ?_) (fun h_1 => ?_)
      · show en_wp k_X0_takeBack 59 [some (.inr (.inr (r_Elements, 0))), some (.inl s), some (.inl e)] [] (srl σ [(r_Elements_rowsR, X)]) _
        refine wp_run 1 (pc' := 60) (ls' := [some (.inr (.inr (r_Elements, 0))), some (.inl s), some (.inl e)]) (st' := [.inl 1]) (σ' := srl σ [(r_Elements_rowsR, X)]) rfl ?_
        exact wp_zret rfl (.inr rfl) ⟨X, (by first | rfl | (rw [bI_t (by omega)]) | (rw [bI_f (by omega)])), srl_eq (l' := [(r_Elements_rowsR, X)]) (And.intro rfl trivial) (And.intro rfl trivial), (by first | rw [if_pos (by omega), hX, show e * 364 = 2184 by omega] | rw [if_neg (by omega)])⟩
      · show en_wp k_X0_takeBack 28 [some (.inr (.inr (r_Elements, 0))), some (.inl s), some (.inl e)] [] (srl σ [(r_Elements_rowsR, X)]) _
        refine wp_run 7 (pc' := 38) (ls' := [some (.inr (.inr (r_Elements, 0))), some (.inl s), some (.inl e)]) (st' := [.inl ((s * 6) + e), .inr (.inr (r_Elements_slotRows, 0))]) (σ' := srl σ [(r_Elements_rowsR, X)]) rfl ?_
        refine wp_aald (m := 364) rfl rfl rfl (by omega) ?_
        show en_wp k_X0_takeBack 39 [some (.inr (.inr (r_Elements, 0))), some (.inl s), some (.inl e)] [.inr (.inr (r_Elements_slotRowsR, (((s * 6) + e) * 364)))] (srl σ [(r_Elements_rowsR, X)]) _
        refine wp_run 4 (pc' := 45) (ls' := [some (.inr (.inr (r_Elements, 0))), some (.inl s), some (.inl e)]) (st' := [.inl e, .inr (.inr (r_Elements_rows, 0)), .inl 0, .inr (.inr (r_Elements_slotRowsR, (((s * 6) + e) * 364)))]) (σ' := srl σ [(r_Elements_rowsR, X)]) rfl ?_
        refine wp_aald (m := 364) rfl rfl rfl (by omega) ?_
        show en_wp k_X0_takeBack 46 [some (.inr (.inr (r_Elements, 0))), some (.inl s), some (.inl e)] [.inr (.inr (r_Elements_rowsR, (e * 364))), .inl 0, .inr (.inr (r_Elements_slotRowsR, (((s * 6) + e) * 364)))] (srl σ [(r_Elements_rowsR, X)]) _
        refine wp_run 2 (pc' := 50) (ls' := [some (.inr (.inr (r_Elements, 0))), some (.inl s), some (.inl e)]) (st' := [.inl 364, .inl 0, .inr (.inr (r_Elements_rowsR, (e * 364))), .inl 0, .inr (.inr (r_Elements_slotRowsR, (((s * 6) + e) * 364)))]) (σ' := srl σ [(r_Elements_rowsR, X)]) rfl ?_
        refine wp_copy rfl rfl rfl rfl (by omega) (by omega) (by omega) (wp_wr (l2 := [(r_Elements_rowsR, (en_cpy (σ r_Elements_slotRowsR) X ((((s * 6) + e) * 364) + 0) ((e * 364) + 0) 364))]) rfl ?_)
        show en_wp k_X0_takeBack 53 [some (.inr (.inr (r_Elements, 0))), some (.inl s), some (.inl e)] [] (srl σ [(r_Elements_rowsR, (en_cpy (σ r_Elements_slotRowsR) X ((((s * 6) + e) * 364) + 0) ((e * 364) + 0) 364))]) _
        refine wp_run 2 (pc' := 22) (ls' := [some (.inr (.inr (r_Elements, 0))), some (.inl s), some (.inl (e + 1))]) (st' := []) (σ' := srl σ [(r_Elements_rowsR, (en_cpy (σ r_Elements_slotRowsR) X ((((s * 6) + e) * 364) + 0) ((e * 364) + 0) 364))]) rfl ?_
        exact ih_22 (e + 1) (en_cpy (σ r_Elements_slotRowsR) X ((((s * 6) + e) * 364) + 0) ((e * 364) + 0) 364) (by omega) (by omega) (by rw [hX, show (e + 1) * 364 = e * 364 + 364 by omega]; exact cpy_seg (by omega) (by omega) (by omega) (fun j _ _ => by rw [show (s * 6 + e) * 364 + 0 + j = s * 2184 + (e * 364 + j) by omega])) (by omega)
  refine wp_run 1 (pc' := 1) (ls' := [some (.inr (.inr (r_Elements, 0))), some (.inl s), none]) (st' := [.inl s]) (σ' := srl σ []) rfl ?_
  refine wp_if_lt rfl (by omega) (fun h_2 => ?_) (fun h_2 => ?_)
  · show en_wp k_X0_takeBack 18 [some (.inr (.inr (r_Elements, 0))), some (.inl s), none] [] (srl σ []) _
    refine wp_run 1 (pc' := 19) (ls' := [some (.inr (.inr (r_Elements, 0))), some (.inl s), none]) (st' := [.inl 0]) (σ' := srl σ []) rfl ?_
    exact wp_zret rfl (.inl rfl) ⟨(σ r_Elements_rowsR), (by first | rfl | (rw [bI_t (by omega)]) | (rw [bI_f (by omega)])), srl_eq (l' := [(r_Elements_rowsR, σ r_Elements_rowsR)]) trivial (And.intro rfl trivial), (by first | rw [if_pos (by omega), hX, show e * 364 = 2184 by omega] | rw [if_neg (by omega)])⟩
  · show en_wp k_X0_takeBack 4 [some (.inr (.inr (r_Elements, 0))), some (.inl s), none] [] (srl σ []) _
    refine wp_run 2 (pc' := 6) (ls' := [some (.inr (.inr (r_Elements, 0))), some (.inl s), none]) (st' := [.inl 3, .inl s]) (σ' := srl σ []) rfl ?_
    refine wp_ic_ge rfl (by omega) (by omega) (fun h_3 => ?_) (fun h_3 => ?_)
    · show en_wp k_X0_takeBack 18 [some (.inr (.inr (r_Elements, 0))), some (.inl s), none] [] (srl σ []) _
      refine wp_run 1 (pc' := 19) (ls' := [some (.inr (.inr (r_Elements, 0))), some (.inl s), none]) (st' := [.inl 0]) (σ' := srl σ []) rfl ?_
      exact wp_zret rfl (.inl rfl) ⟨(σ r_Elements_rowsR), (by first | rfl | (rw [bI_t (by omega)]) | (rw [bI_f (by omega)])), srl_eq (l' := [(r_Elements_rowsR, σ r_Elements_rowsR)]) trivial (And.intro rfl trivial), (by first | rw [if_pos (by omega), hX, show e * 364 = 2184 by omega] | rw [if_neg (by omega)])⟩
    · show en_wp k_X0_takeBack 9 [some (.inr (.inr (r_Elements, 0))), some (.inl s), none] [] (srl σ []) _
      refine wp_run 3 (pc' := 14) (ls' := [some (.inr (.inr (r_Elements, 0))), some (.inl s), none]) (st' := [.inl s, .inr (.inr (r_Elements_isKept, 0))]) (σ' := srl σ []) rfl ?_
      refine wp_bald0 rfl (.inl rfl) (by omega) ?_
      show en_wp k_X0_takeBack 15 [some (.inr (.inr (r_Elements, 0))), some (.inl s), none] [.inl (σ r_Elements_isKept s)] (srl σ []) _
      have hHs := hH s
      refine wp_if_ne rfl (by omega) (fun h_4 => ?_) (fun h_4 => ?_)
      · show en_wp k_X0_takeBack 20 [some (.inr (.inr (r_Elements, 0))), some (.inl s), none] [] (srl σ []) _
        refine wp_run 2 (pc' := 22) (ls' := [some (.inr (.inr (r_Elements, 0))), some (.inl s), some (.inl 0)]) (st' := []) (σ' := srl σ []) rfl ?_
        refine wp_mem (srl_eq (l' := [(r_Elements_rowsR, (σ r_Elements_rowsR))]) trivial (And.intro rfl trivial)) ?_
        exact L_22 _ 0 (σ r_Elements_rowsR) (by omega) (by omega) (by rw [Int.zero_mul]; exact (seg_0 _ _ _).symm) (Nat.lt_succ_self _)
      · show en_wp k_X0_takeBack 18 [some (.inr (.inr (r_Elements, 0))), some (.inl s), none] [] (srl σ []) _
        refine wp_run 1 (pc' := 19) (ls' := [some (.inr (.inr (r_Elements, 0))), some (.inl s), none]) (st' := [.inl 0]) (σ' := srl σ []) rfl ?_
        exact wp_zret rfl (.inl rfl) ⟨(σ r_Elements_rowsR), (by first | rfl | (rw [bI_t (by omega)]) | (rw [bI_f (by omega)])), srl_eq (l' := [(r_Elements_rowsR, σ r_Elements_rowsR)]) trivial (And.intro rfl trivial), (by first | rw [if_pos (by omega), hX, show e * 364 = 2184 by omega] | rw [if_neg (by omega)])⟩
theorem ct_X0_slotsKept (σ : en_m) (hH : R01 ((σ r_Elements_isKept))) : en_fn z_X0_slotsKept [.inr (.inr (r_Elements, 0))] σ (.inl ((σ r_Elements_isKept) 0 + (σ r_Elements_isKept) 1 + (σ r_Elements_isKept) 2)) := by
  show en_wp k_X0_slotsKept 0 [some (.inr (.inr (r_Elements, 0))), none, none] [] (srl σ []) (fun r σ' => r = some (.inl ((σ r_Elements_isKept) 0 + (σ r_Elements_isKept) 1 + (σ r_Elements_isKept) 2)) ∧ σ' = σ)
  have g0 := hH 0
  have g1 := hH 1
  have g2 := hH 2
  refine wp_run 11 (pc' := 15) (ls' := [some (.inr (.inr (r_Elements, 0))), some (.inl 0), some (.inl 0)]) (st' := [.inl 0, .inr (.inr (r_Elements_isKept, 0)), .inl 0]) (σ' := srl σ []) rfl ?_
  refine wp_bald0 rfl (.inl rfl) (by omega) ?_
  show en_wp k_X0_slotsKept 16 [some (.inr (.inr (r_Elements, 0))), some (.inl 0), some (.inl 0)] [.inl (σ r_Elements_isKept 0), .inl 0] (srl σ []) _
  refine wp_run 11 (pc' := 15) (ls' := [some (.inr (.inr (r_Elements, 0))), some (.inl (0 + (σ r_Elements_isKept 0))), some (.inl 1)]) (st' := [.inl 1, .inr (.inr (r_Elements_isKept, 0)), .inl (0 + (σ r_Elements_isKept 0))]) (σ' := srl σ []) rfl ?_
  refine wp_bald0 rfl (.inl rfl) (by omega) ?_
  show en_wp k_X0_slotsKept 16 [some (.inr (.inr (r_Elements, 0))), some (.inl (0 + (σ r_Elements_isKept 0))), some (.inl 1)] [.inl (σ r_Elements_isKept 1), .inl (0 + (σ r_Elements_isKept 0))] (srl σ []) _
  refine wp_run 11 (pc' := 15) (ls' := [some (.inr (.inr (r_Elements, 0))), some (.inl ((0 + (σ r_Elements_isKept 0)) + (σ r_Elements_isKept 1))), some (.inl 2)]) (st' := [.inl 2, .inr (.inr (r_Elements_isKept, 0)), .inl ((0 + (σ r_Elements_isKept 0)) + (σ r_Elements_isKept 1))]) (σ' := srl σ []) rfl ?_
  refine wp_bald0 rfl (.inl rfl) (by omega) ?_
  show en_wp k_X0_slotsKept 16 [some (.inr (.inr (r_Elements, 0))), some (.inl ((0 + (σ r_Elements_isKept 0)) + (σ r_Elements_isKept 1))), some (.inl 2)] [.inl (σ r_Elements_isKept 2), .inl ((0 + (σ r_Elements_isKept 0)) + (σ r_Elements_isKept 1))] (srl σ []) _
  refine wp_run 8 (pc' := 25) (ls' := [some (.inr (.inr (r_Elements, 0))), some (.inl (((0 + (σ r_Elements_isKept 0)) + (σ r_Elements_isKept 1)) + (σ r_Elements_isKept 2))), some (.inl 3)]) (st' := [.inl (((0 + (σ r_Elements_isKept 0)) + (σ r_Elements_isKept 1)) + (σ r_Elements_isKept 2))]) (σ' := srl σ []) rfl ?_
  exact wp_iret rfl ⟨(by rw [Int.zero_add]), rfl⟩
