/-! contracts of methods, walked (written by wip/whole/walk.py from the annotations ann_fg) -/
theorem ct_X0_forget (σ : en_m) : en_ct z_X0_forget [.inr (.inr (r_Elements, 0))] σ (fun r σ' => ∃ (f_Elements_rowsR : Int → Int), ∃ (f_Elements_isKept : Int → Int), r = none ∧ σ' = srl σ [(r_Elements_rowsR, f_Elements_rowsR), (r_Elements_isKept, f_Elements_isKept)] ∧ (f_Elements_rowsR = seg (σ r_Elements_rowsR) 0 2184 (fun _ => 0)) ∧ (f_Elements_isKept = seg (σ r_Elements_isKept) 0 3 (fun _ => 0))) := by
  show en_wp k_X0_forget 0 [some (.inr (.inr (r_Elements, 0))), none] [] (srl σ []) (fun r σ' => ∃ (f_Elements_rowsR : Int → Int), ∃ (f_Elements_isKept : Int → Int), r = none ∧ σ' = srl σ [(r_Elements_rowsR, f_Elements_rowsR), (r_Elements_isKept, f_Elements_isKept)] ∧ (f_Elements_rowsR = seg (σ r_Elements_rowsR) 0 2184 (fun _ => 0)) ∧ (f_Elements_isKept = seg (σ r_Elements_isKept) 0 3 (fun _ => 0)))
  have L_26 : ∀ (N : Nat) (e : Int) (X : Int → Int) (Y : Int → Int), (0 ≤ e ∧ e ≤ 3) → (X = seg (σ r_Elements_rowsR) 0 2184 (fun _ => 0)) → (Y = seg (σ r_Elements_isKept) 0 e (fun _ => 0)) → (3 - e).toNat < N → en_wp k_X0_forget 26 [some (.inr (.inr (r_Elements, 0))), some (.inl e)] [] (srl σ [(r_Elements_rowsR, X), (r_Elements_isKept, Y)]) (fun r σ' => ∃ (f_Elements_rowsR : Int → Int), ∃ (f_Elements_isKept : Int → Int), r = none ∧ σ' = srl σ [(r_Elements_rowsR, f_Elements_rowsR), (r_Elements_isKept, f_Elements_isKept)] ∧ (f_Elements_rowsR = seg (σ r_Elements_rowsR) 0 2184 (fun _ => 0)) ∧ (f_Elements_isKept = seg (σ r_Elements_isKept) 0 3 (fun _ => 0))) := by
    intro N
    induction N with
    | zero => intro e X Y; intros; omega
    | succ N ih_26 =>
      intro e X Y hk hX hY hN_26
      refine wp_run 2 (pc' := 28) (ls' := [some (.inr (.inr (r_Elements, 0))), some (.inl e)]) (st' := [.inl 3, .inl e]) (σ' := srl σ [(r_Elements_rowsR, X), (r_Elements_isKept, Y)]) rfl ?_
      refine wp_ic_ge rfl (by omega) (by omega) (fun h_1 => ?_) (fun h_1 => ?_)
      · show en_wp k_X0_forget 44 [some (.inr (.inr (r_Elements, 0))), some (.inl e)] [] (srl σ [(r_Elements_rowsR, X), (r_Elements_isKept, Y)]) _
        exact wp_vret rfl ⟨X, Y, rfl, srl_eq (l' := [(r_Elements_rowsR, X), (r_Elements_isKept, Y)]) (And.intro rfl (And.intro rfl trivial)) (And.intro rfl (And.intro rfl trivial)), ⟨hX, by rw [hY, show e = 3 by omega]⟩⟩
      · show en_wp k_X0_forget 31 [some (.inr (.inr (r_Elements, 0))), some (.inl e)] [] (srl σ [(r_Elements_rowsR, X), (r_Elements_isKept, Y)]) _
        refine wp_run 4 (pc' := 37) (ls' := [some (.inr (.inr (r_Elements, 0))), some (.inl e)]) (st' := [.inl 0, .inl e, .inr (.inr (r_Elements_isKept, 0))]) (σ' := srl σ [(r_Elements_rowsR, X), (r_Elements_isKept, Y)]) rfl ?_
        refine wp_bast0 rfl rfl (by omega) (by omega) (wp_wr (l2 := [(r_Elements_rowsR, X), (r_Elements_isKept, (up Y e 0))]) rfl ?_)
        show en_wp k_X0_forget 38 [some (.inr (.inr (r_Elements, 0))), some (.inl e)] [] (srl σ [(r_Elements_rowsR, X), (r_Elements_isKept, (up Y e 0))]) _
        refine wp_run 2 (pc' := 26) (ls' := [some (.inr (.inr (r_Elements, 0))), some (.inl (e + 1))]) (st' := []) (σ' := srl σ [(r_Elements_rowsR, X), (r_Elements_isKept, (up Y e 0))]) rfl ?_
        exact ih_26 (e + 1) X (up Y e 0) (by omega) hX (by rw [hY]; exact seg_up0 hk.1 rfl) (by omega)
  have L_2 : ∀ (N : Nat) (e : Int) (X : Int → Int), (0 ≤ e ∧ e ≤ 6) → (X = seg (σ r_Elements_rowsR) 0 (e * 364) (fun _ => 0)) → (6 - e).toNat < N → en_wp k_X0_forget 2 [some (.inr (.inr (r_Elements, 0))), some (.inl e)] [] (srl σ [(r_Elements_rowsR, X)]) (fun r σ' => ∃ (f_Elements_rowsR : Int → Int), ∃ (f_Elements_isKept : Int → Int), r = none ∧ σ' = srl σ [(r_Elements_rowsR, f_Elements_rowsR), (r_Elements_isKept, f_Elements_isKept)] ∧ (f_Elements_rowsR = seg (σ r_Elements_rowsR) 0 2184 (fun _ => 0)) ∧ (f_Elements_isKept = seg (σ r_Elements_isKept) 0 3 (fun _ => 0))) := by
    intro N
    induction N with
    | zero => intro e X; intros; omega
    | succ N ih_2 =>
      intro e X hk hX hN_2
      refine wp_run 2 (pc' := 5) (ls' := [some (.inr (.inr (r_Elements, 0))), some (.inl e)]) (st' := [.inl 6, .inl e]) (σ' := srl σ [(r_Elements_rowsR, X)]) rfl ?_
      refine wp_ic_ge rfl (by omega) (by omega) (fun h_2 => ?_) (fun h_2 => ?_)
      · show en_wp k_X0_forget 24 [some (.inr (.inr (r_Elements, 0))), some (.inl e)] [] (srl σ [(r_Elements_rowsR, X)]) _
        refine wp_run 2 (pc' := 26) (ls' := [some (.inr (.inr (r_Elements, 0))), some (.inl 0)]) (st' := []) (σ' := srl σ [(r_Elements_rowsR, X)]) rfl ?_
        refine wp_mem (srl_eq (l' := [(r_Elements_rowsR, X), (r_Elements_isKept, (σ r_Elements_isKept))]) (And.intro rfl trivial) (And.intro rfl (And.intro rfl trivial))) ?_
        exact L_26 _ 0 X (σ r_Elements_isKept) (by omega) (by rw [hX, show e * 364 = 2184 by omega]) (seg_0 _ _ _).symm (Nat.lt_succ_self _)
      · show en_wp k_X0_forget 8 [some (.inr (.inr (r_Elements, 0))), some (.inl e)] [] (srl σ [(r_Elements_rowsR, X)]) _
        refine wp_run 3 (pc' := 13) (ls' := [some (.inr (.inr (r_Elements, 0))), some (.inl e)]) (st' := [.inl e, .inr (.inr (r_Elements_rows, 0))]) (σ' := srl σ [(r_Elements_rowsR, X)]) rfl ?_
        refine wp_aald (m := 364) rfl rfl rfl (by omega) ?_
        show en_wp k_X0_forget 14 [some (.inr (.inr (r_Elements, 0))), some (.inl e)] [.inr (.inr (r_Elements_rowsR, (e * 364)))] (srl σ [(r_Elements_rowsR, X)]) _
        refine wp_run 1 (pc' := 15) (ls' := [some (.inr (.inr (r_Elements, 0))), some (.inl e)]) (st' := [.inl 0, .inr (.inr (r_Elements_rowsR, (e * 364)))]) (σ' := srl σ [(r_Elements_rowsR, X)]) rfl ?_
        refine wp_calls rfl rfl rfl rfl rfl (ct_J7_fill_53178_Elements_rowsR (srl σ [(r_Elements_rowsR, X)]) (e * 364) 0) ?_
        rintro _ _ ⟨rfl, rfl⟩
        refine wp_bk (l2 := [(r_Elements_rowsR, (seg X (e * 364) 364 (fun _ => 0)))]) rfl rfl ?_
        show en_wp k_X0_forget 18 [some (.inr (.inr (r_Elements, 0))), some (.inl e)] [] (srl σ [(r_Elements_rowsR, (seg X (e * 364) 364 (fun _ => 0)))]) _
        refine wp_run 2 (pc' := 2) (ls' := [some (.inr (.inr (r_Elements, 0))), some (.inl (e + 1))]) (st' := []) (σ' := srl σ [(r_Elements_rowsR, (seg X (e * 364) 364 (fun _ => 0)))]) rfl ?_
        exact ih_2 (e + 1) (seg X (e * 364) 364 (fun _ => 0)) (by omega) (by have h9 := seg_cat (f := σ r_Elements_rowsR) (o := 0) (a := e * 364) (b := 364) (g := fun _ => 0) (by omega) (by omega); rw [Int.zero_add] at h9; rw [hX, h9, show (e + 1) * 364 = e * 364 + 364 by omega]) (by omega)
  refine wp_run 2 (pc' := 2) (ls' := [some (.inr (.inr (r_Elements, 0))), some (.inl 0)]) (st' := []) (σ' := srl σ []) rfl ?_
  refine wp_mem (srl_eq (l' := [(r_Elements_rowsR, (σ r_Elements_rowsR))]) trivial (And.intro rfl trivial)) ?_
  exact L_2 _ 0 (σ r_Elements_rowsR) (by omega) (by rw [Int.zero_mul]; exact (seg_0 _ _ _).symm) (Nat.lt_succ_self _)
