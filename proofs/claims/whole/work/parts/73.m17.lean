/-! contracts of methods, walked (written by wip/whole/walk.py from the annotations ann_m17) -/
theorem ct_X12_nothing (σ : en_m) (n : Int) (D : Int) (p : Int) (LW : Int → (Int → Int) → Prop) (hI : mI σ n D p) (hrow : R97 ((σ r_Md_row))) (hrows : R97 ((σ r_Md_rows))) (hlead : R01 ((σ r_Md_leads))) (hm : 0 ≤ (σ r_Md_laws) ((σ r_Md_live) 0) ∧ (σ r_Md_laws) ((σ r_Md_live) 0) ≤ 8) (hll : ∀ i, i32 ((σ r_Md_lawLength) i)) (hlw : ∀ i, 0 ≤ i → i < (σ r_Md_laws) ((σ r_Md_live) 0) → ∀ j, 0 ≤ j → j < 256 → 0 ≤ (σ r_Md_lawRow) (256 * (8 * (σ r_Md_live) 0 + i) + j) ∧ (σ r_Md_lawRow) (256 * (8 * (σ r_Md_live) 0 + i) + j) < p) (gLW : lwOk (fun x => (σ r_Md_lawRow) (2048 * (σ r_Md_live) 0 + x)) (fun i => (σ r_Md_lawLength) (8 * (σ r_Md_live) 0 + i)) ((σ r_Md_laws) ((σ r_Md_live) 0)) n D p LW) : en_ct z_X12_nothing [.inr (.inr (r_Md, 0))] σ (fun r σ' => ∃ (f_Md_spare : Int → Int), ∃ (f_Md_row : Int → Int), ∃ (f_Md_rows : Int → Int), ∃ (f_Md_leads : Int → Int), ∃ (f_Md_sizes : Int → Int), ∃ (f_Md_rowStart : Int → Int), ∃ (v_Md_quadratic : Int → Int), r = none ∧ σ' = srl σ [(r_Md_spare, f_Md_spare), (r_Md_row, f_Md_row), (r_Md_rows, f_Md_rows), (r_Md_leads, f_Md_leads), (r_Md_sizes, f_Md_sizes), (r_Md_rowStart, f_Md_rowStart), (r_Md_quadratic, v_Md_quadratic)] ∧ (mNall f_Md_rowStart f_Md_rows f_Md_leads f_Md_sizes n D p LW) ∧ (((v_Md_quadratic 0) = 1 ∧ (∀ i, 0 ≤ i → i < (σ r_Md_laws) ((σ r_Md_live) 0) → (σ r_Md_lawLength) (8 * (σ r_Md_live) 0 + i) = 0 ∨ (σ r_Md_lawLength) (8 * (σ r_Md_live) 0 + i) = 2) ∧ ∀ d, 0 ≤ d → d ≤ D → mNd f_Md_rowStart f_Md_rows f_Md_leads f_Md_sizes 1 n D p (dLW n D p LW) d) ∨ ((v_Md_quadratic 0) = 0 ∧ ¬ (∀ i, 0 ≤ i → i < (σ r_Md_laws) ((σ r_Md_live) 0) → (σ r_Md_lawLength) (8 * (σ r_Md_live) 0 + i) = 0 ∨ (σ r_Md_lawLength) (8 * (σ r_Md_live) 0 + i) = 2))) ∧ (R97 f_Md_row)) := by
  show en_wp k_X12_nothing 0 [some (.inr (.inr (r_Md, 0))), none] [] (srl σ []) (fun r σ' => ∃ (f_Md_spare : Int → Int), ∃ (f_Md_row : Int → Int), ∃ (f_Md_rows : Int → Int), ∃ (f_Md_leads : Int → Int), ∃ (f_Md_sizes : Int → Int), ∃ (f_Md_rowStart : Int → Int), ∃ (v_Md_quadratic : Int → Int), r = none ∧ σ' = srl σ [(r_Md_spare, f_Md_spare), (r_Md_row, f_Md_row), (r_Md_rows, f_Md_rows), (r_Md_leads, f_Md_leads), (r_Md_sizes, f_Md_sizes), (r_Md_rowStart, f_Md_rowStart), (r_Md_quadratic, v_Md_quadratic)] ∧ (mNall f_Md_rowStart f_Md_rows f_Md_leads f_Md_sizes n D p LW) ∧ (((v_Md_quadratic 0) = 1 ∧ (∀ i, 0 ≤ i → i < (σ r_Md_laws) ((σ r_Md_live) 0) → (σ r_Md_lawLength) (8 * (σ r_Md_live) 0 + i) = 0 ∨ (σ r_Md_lawLength) (8 * (σ r_Md_live) 0 + i) = 2) ∧ ∀ d, 0 ≤ d → d ≤ D → mNd f_Md_rowStart f_Md_rows f_Md_leads f_Md_sizes 1 n D p (dLW n D p LW) d) ∨ ((v_Md_quadratic 0) = 0 ∧ ¬ (∀ i, 0 ≤ i → i < (σ r_Md_laws) ((σ r_Md_live) 0) → (σ r_Md_lawLength) (8 * (σ r_Md_live) 0 + i) = 0 ∨ (σ r_Md_lawLength) (8 * (σ r_Md_live) 0 + i) = 2))) ∧ (R97 f_Md_row))
  have hI2 := hI
  obtain ⟨hO, hL, hn, hD, hp, hpw, hst⟩ := hI2
  obtain ⟨⟨hO1, hO2⟩, ⟨hO3, hO4⟩, hO5, hO6, hO7, hO8⟩ := id hO
  have L_12 : ∀ (N : Nat) (i : Int) (A : Int → Int) (Y : Int → Int) (Z : Int → Int) (SZ : Int → Int) (RS : Int → Int) (QV : Int → Int), (0 ≤ i ∧ i ≤ σ r_Md_laws (σ r_Md_live 0)) → (∀ d, 0 ≤ d → d ≤ D → mNd RS Y Z SZ 0 n D p LW d) → (R97 A) → (R97 Y) → (R01 Z) → (nqS (fun j => σ r_Md_lawLength (8 * σ r_Md_live 0 + j)) (σ r_Md_laws (σ r_Md_live 0)) i (QV 0)) → (σ r_Md_laws (σ r_Md_live 0) - i).toNat < N → en_wp k_X12_nothing 12 [some (.inr (.inr (r_Md, 0))), some (.inl i)] [] (srl σ [(r_Md_row, A), (r_Md_rows, Y), (r_Md_leads, Z), (r_Md_sizes, SZ), (r_Md_rowStart, RS), (r_Md_quadratic, QV)]) (fun r σ' => ∃ (f_Md_spare : Int → Int), ∃ (f_Md_row : Int → Int), ∃ (f_Md_rows : Int → Int), ∃ (f_Md_leads : Int → Int), ∃ (f_Md_sizes : Int → Int), ∃ (f_Md_rowStart : Int → Int), ∃ (v_Md_quadratic : Int → Int), r = none ∧ σ' = srl σ [(r_Md_spare, f_Md_spare), (r_Md_row, f_Md_row), (r_Md_rows, f_Md_rows), (r_Md_leads, f_Md_leads), (r_Md_sizes, f_Md_sizes), (r_Md_rowStart, f_Md_rowStart), (r_Md_quadratic, v_Md_quadratic)] ∧ (mNall f_Md_rowStart f_Md_rows f_Md_leads f_Md_sizes n D p LW) ∧ (((v_Md_quadratic 0) = 1 ∧ (∀ i, 0 ≤ i → i < (σ r_Md_laws) ((σ r_Md_live) 0) → (σ r_Md_lawLength) (8 * (σ r_Md_live) 0 + i) = 0 ∨ (σ r_Md_lawLength) (8 * (σ r_Md_live) 0 + i) = 2) ∧ ∀ d, 0 ≤ d → d ≤ D → mNd f_Md_rowStart f_Md_rows f_Md_leads f_Md_sizes 1 n D p (dLW n D p LW) d) ∨ ((v_Md_quadratic 0) = 0 ∧ ¬ (∀ i, 0 ≤ i → i < (σ r_Md_laws) ((σ r_Md_live) 0) → (σ r_Md_lawLength) (8 * (σ r_Md_live) 0 + i) = 0 ∨ (σ r_Md_lawLength) (8 * (σ r_Md_live) 0 + i) = 2))) ∧ (R97 f_Md_row)) := by
    intro N
    induction N with
    | zero => intro i A Y Z SZ RS QV; intros; omega
    | succ N ih_12 =>
      intro i A Y Z SZ RS QV hi hN hA hY3 hZ3 hQ hN_12
      refine wp_run 5 (pc' := 21) (ls' := [some (.inr (.inr (r_Md, 0))), some (.inl i)]) (st' := [.inl (σ r_Md_live 0), .inr (.inr (r_Md_laws, 0)), .inl i]) (σ' := srl σ [(r_Md_row, A), (r_Md_rows, Y), (r_Md_leads, Z), (r_Md_sizes, SZ), (r_Md_rowStart, RS), (r_Md_quadratic, QV)]) rfl ?_
      refine wp_iald0 rfl rfl (by omega) ?_
      show en_wp k_X12_nothing 22 [some (.inr (.inr (r_Md, 0))), some (.inl i)] [.inl (σ r_Md_laws (σ r_Md_live 0)), .inl i] (srl σ [(r_Md_row, A), (r_Md_rows, Y), (r_Md_leads, Z), (r_Md_sizes, SZ), (r_Md_rowStart, RS), (r_Md_quadratic, QV)]) _
      refine wp_ic_ge rfl (by omega) (by omega) (fun h_1 => ?_) (fun h_1 => ?_)
      · show en_wp k_X12_nothing 71 [some (.inr (.inr (r_Md, 0))), some (.inl i)] [] (srl σ [(r_Md_row, A), (r_Md_rows, Y), (r_Md_leads, Z), (r_Md_sizes, SZ), (r_Md_rowStart, RS), (r_Md_quadratic, QV)]) _
        refine wp_run 2 (pc' := 75) (ls' := [some (.inr (.inr (r_Md, 0))), some (.inl i)]) (st' := [.inl (QV 0)]) (σ' := srl σ [(r_Md_row, A), (r_Md_rows, Y), (r_Md_leads, Z), (r_Md_sizes, SZ), (r_Md_rowStart, RS), (r_Md_quadratic, QV)]) rfl ?_
        have hq01 : QV 0 = 0 ∨ QV 0 = 1 := nqS_01 hQ
        refine wp_if_eq rfl (by omega) (fun h_2 => ?_) (fun h_2 => ?_)
        · have hqz := h_2
          show en_wp k_X12_nothing 83 [some (.inr (.inr (r_Md, 0))), some (.inl i)] [] (srl σ [(r_Md_row, A), (r_Md_rows, Y), (r_Md_leads, Z), (r_Md_sizes, SZ), (r_Md_rowStart, RS), (r_Md_quadratic, QV)]) _
          exact wp_vret rfl ⟨(σ r_Md_spare), A, Y, Z, SZ, RS, QV, rfl, srl_eq (l' := [(r_Md_spare, σ r_Md_spare), (r_Md_row, A), (r_Md_rows, Y), (r_Md_leads, Z), (r_Md_sizes, SZ), (r_Md_rowStart, RS), (r_Md_quadratic, QV)]) (And.intro rfl (And.intro rfl (And.intro rfl (And.intro rfl (And.intro rfl (And.intro rfl trivial)))))) (And.intro rfl (And.intro rfl (And.intro rfl (And.intro rfl (And.intro rfl (And.intro rfl (And.intro rfl trivial))))))), (by first | exact ⟨⟨hN0, k1.2.2.2.2.2.2.1, k1.2.2.2.2.2.2.2⟩, .inl ⟨by omega, nq_y hQ hqz (by omega), k1.1⟩, k1.2.2.2.2.2.1⟩ | exact ⟨⟨hN, hY3, hZ3⟩, .inr ⟨hqz, nq_n hQ hqz⟩, hA⟩)⟩
        · have hqz := h_2
          show en_wp k_X12_nothing 78 [some (.inr (.inr (r_Md, 0))), some (.inl i)] [] (srl σ [(r_Md_row, A), (r_Md_rows, Y), (r_Md_leads, Z), (r_Md_sizes, SZ), (r_Md_rowStart, RS), (r_Md_quadratic, QV)]) _
          refine wp_run 2 (pc' := 80) (ls' := [some (.inr (.inr (r_Md, 0))), some (.inl i)]) (st' := [.inl 1, .inr (.inr (r_Md, 0))]) (σ' := srl σ [(r_Md_row, A), (r_Md_rows, Y), (r_Md_leads, Z), (r_Md_sizes, SZ), (r_Md_rowStart, RS), (r_Md_quadratic, QV)]) rfl ?_
          refine wp_callv rfl rfl rfl rfl (ct_X12_fills_1 (srl σ [(r_Md_row, A), (r_Md_rows, Y), (r_Md_leads, Z), (r_Md_sizes, SZ), (r_Md_rowStart, RS), (r_Md_quadratic, QV)]) n D p LW hI hA hY3 hZ3 hN) ?_
          rintro _ _ ⟨f_3, f_4, f_5, f_6, f_7, f_8, rfl, rfl, p_9, p_10, p_11, p_12, p_13, p_14, p_15, p_16⟩
          have p_9 : ∀ d, 0 ≤ d → d ≤ D → mNd f_8 f_5 f_6 f_7 1 n D p (dLW n D p LW) d := p_9
          have p_10 : ∀ x, (x < 9 * 1 ∨ 9 * 1 + 9 ≤ x) → f_8 x = RS x := p_10
          have p_11 : ∀ x, (x < 9 * 1 ∨ 9 * 1 + 9 ≤ x) → f_7 x = SZ x := p_11
          have p_12 : ∀ x, (x < 70000 * 1 ∨ 70000 * 1 + 70000 ≤ x) → f_5 x = Y x := p_12
          have p_13 : ∀ x, (x < 400 * 1 ∨ 400 * 1 + 400 ≤ x) → f_6 x = Z x := p_13
          have p_14 : R97 f_4 := p_14
          have p_15 : R97 f_5 := p_15
          have p_16 : R01 f_6 := p_16
          refine wp_bk (l2 := [(r_Md_row, f_4), (r_Md_rows, f_5), (r_Md_leads, f_6), (r_Md_sizes, f_7), (r_Md_rowStart, f_8), (r_Md_quadratic, QV), (r_Md_spare, f_3)]) rfl rfl ?_
          show en_wp k_X12_nothing 83 [some (.inr (.inr (r_Md, 0))), some (.inl i)] [] (srl σ [(r_Md_row, f_4), (r_Md_rows, f_5), (r_Md_leads, f_6), (r_Md_sizes, f_7), (r_Md_rowStart, f_8), (r_Md_quadratic, QV), (r_Md_spare, f_3)]) _
          have k1 := (⟨p_9, p_10, p_11, p_12, p_13, p_14, p_15, p_16⟩ : _ ∧ _ ∧ _ ∧ _ ∧ _ ∧ _ ∧ _ ∧ _)
          have hQt := sQ_le hO
          have hSt := sS_b (k := D + 1) hO
          have hN0 := fun d (a : 0 ≤ d) (b : d ≤ D) => mNd_up (d := D + 1) hO a (by omega) (hN d a b) (fun x a1 a2 => k1.2.2.2.1 x (by omega)) (fun x a1 a2 => k1.2.2.2.2.1 x (by omega)) (fun x a1 a2 => k1.2.2.1 x (by omega)) (fun x a1 a2 => k1.2.1 x (by omega))
          exact wp_vret rfl ⟨f_3, f_4, f_5, f_6, f_7, f_8, QV, rfl, srl_eq (l' := [(r_Md_spare, f_3), (r_Md_row, f_4), (r_Md_rows, f_5), (r_Md_leads, f_6), (r_Md_sizes, f_7), (r_Md_rowStart, f_8), (r_Md_quadratic, QV)]) (And.intro rfl (And.intro rfl (And.intro rfl (And.intro rfl (And.intro rfl (And.intro rfl (And.intro rfl trivial))))))) (And.intro rfl (And.intro rfl (And.intro rfl (And.intro rfl (And.intro rfl (And.intro rfl (And.intro rfl trivial))))))), (by first | exact ⟨⟨hN0, k1.2.2.2.2.2.2.1, k1.2.2.2.2.2.2.2⟩, .inl ⟨by omega, nq_y hQ hqz (by omega), k1.1⟩, k1.2.2.2.2.2.1⟩ | exact ⟨⟨hN, hY3, hZ3⟩, .inr ⟨hqz, nq_n hQ hqz⟩, hA⟩)⟩
      · show en_wp k_X12_nothing 25 [some (.inr (.inr (r_Md, 0))), some (.inl i)] [] (srl σ [(r_Md_row, A), (r_Md_rows, Y), (r_Md_leads, Z), (r_Md_sizes, SZ), (r_Md_rowStart, RS), (r_Md_quadratic, QV)]) _
        refine wp_run 8 (pc' := 38) (ls' := [some (.inr (.inr (r_Md, 0))), some (.inl i)]) (st' := [.inl ((8 * (σ r_Md_live 0)) + i), .inr (.inr (r_Md_lawLength, 0))]) (σ' := srl σ [(r_Md_row, A), (r_Md_rows, Y), (r_Md_leads, Z), (r_Md_sizes, SZ), (r_Md_rowStart, RS), (r_Md_quadratic, QV)]) rfl ?_
        refine wp_iald0 rfl rfl (by omega) ?_
        show en_wp k_X12_nothing 39 [some (.inr (.inr (r_Md, 0))), some (.inl i)] [.inl (σ r_Md_lawLength ((8 * (σ r_Md_live 0)) + i))] (srl σ [(r_Md_row, A), (r_Md_rows, Y), (r_Md_leads, Z), (r_Md_sizes, SZ), (r_Md_rowStart, RS), (r_Md_quadratic, QV)]) _
        have hl9 := hll (8 * σ r_Md_live 0 + i)
        refine wp_if_eq rfl (by omega) (fun h_17 => ?_) (fun h_17 => ?_)
        · show en_wp k_X12_nothing 65 [some (.inr (.inr (r_Md, 0))), some (.inl i)] [] (srl σ [(r_Md_row, A), (r_Md_rows, Y), (r_Md_leads, Z), (r_Md_sizes, SZ), (r_Md_rowStart, RS), (r_Md_quadratic, QV)]) _
          refine wp_run 2 (pc' := 12) (ls' := [some (.inr (.inr (r_Md, 0))), some (.inl (i + 1))]) (st' := []) (σ' := srl σ [(r_Md_row, A), (r_Md_rows, Y), (r_Md_leads, Z), (r_Md_sizes, SZ), (r_Md_rowStart, RS), (r_Md_quadratic, QV)]) rfl ?_
          exact ih_12 (i + 1) A Y Z SZ RS QV (by omega) hN hA hY3 hZ3 (nq_step hQ (by omega)) (by omega)
        · show en_wp k_X12_nothing 42 [some (.inr (.inr (r_Md, 0))), some (.inl i)] [] (srl σ [(r_Md_row, A), (r_Md_rows, Y), (r_Md_leads, Z), (r_Md_sizes, SZ), (r_Md_rowStart, RS), (r_Md_quadratic, QV)]) _
          refine wp_run 8 (pc' := 55) (ls' := [some (.inr (.inr (r_Md, 0))), some (.inl i)]) (st' := [.inl ((8 * (σ r_Md_live 0)) + i), .inr (.inr (r_Md_lawLength, 0))]) (σ' := srl σ [(r_Md_row, A), (r_Md_rows, Y), (r_Md_leads, Z), (r_Md_sizes, SZ), (r_Md_rowStart, RS), (r_Md_quadratic, QV)]) rfl ?_
          refine wp_iald0 rfl rfl (by omega) ?_
          show en_wp k_X12_nothing 56 [some (.inr (.inr (r_Md, 0))), some (.inl i)] [.inl (σ r_Md_lawLength ((8 * (σ r_Md_live 0)) + i))] (srl σ [(r_Md_row, A), (r_Md_rows, Y), (r_Md_leads, Z), (r_Md_sizes, SZ), (r_Md_rowStart, RS), (r_Md_quadratic, QV)]) _
          refine wp_run 1 (pc' := 57) (ls' := [some (.inr (.inr (r_Md, 0))), some (.inl i)]) (st' := [.inl 2, .inl (σ r_Md_lawLength ((8 * (σ r_Md_live 0)) + i))]) (σ' := srl σ [(r_Md_row, A), (r_Md_rows, Y), (r_Md_leads, Z), (r_Md_sizes, SZ), (r_Md_rowStart, RS), (r_Md_quadratic, QV)]) rfl ?_
          have hl9 := hll (8 * σ r_Md_live 0 + i)
          refine wp_ic_eq rfl (by omega) (by omega) (fun h_18 => ?_) (fun h_18 => ?_)
          · show en_wp k_X12_nothing 65 [some (.inr (.inr (r_Md, 0))), some (.inl i)] [] (srl σ [(r_Md_row, A), (r_Md_rows, Y), (r_Md_leads, Z), (r_Md_sizes, SZ), (r_Md_rowStart, RS), (r_Md_quadratic, QV)]) _
            refine wp_run 2 (pc' := 12) (ls' := [some (.inr (.inr (r_Md, 0))), some (.inl (i + 1))]) (st' := []) (σ' := srl σ [(r_Md_row, A), (r_Md_rows, Y), (r_Md_leads, Z), (r_Md_sizes, SZ), (r_Md_rowStart, RS), (r_Md_quadratic, QV)]) rfl ?_
            exact ih_12 (i + 1) A Y Z SZ RS QV (by omega) hN hA hY3 hZ3 (nq_step hQ (by omega)) (by omega)
          · show en_wp k_X12_nothing 60 [some (.inr (.inr (r_Md, 0))), some (.inl i)] [] (srl σ [(r_Md_row, A), (r_Md_rows, Y), (r_Md_leads, Z), (r_Md_sizes, SZ), (r_Md_rowStart, RS), (r_Md_quadratic, QV)]) _
            refine wp_run 2 (pc' := 62) (ls' := [some (.inr (.inr (r_Md, 0))), some (.inl i)]) (st' := [.inl 0, .inr (.inr (r_Md, 0))]) (σ' := srl σ [(r_Md_row, A), (r_Md_rows, Y), (r_Md_leads, Z), (r_Md_sizes, SZ), (r_Md_rowStart, RS), (r_Md_quadratic, QV)]) rfl ?_
            refine wp_put1 rfl rfl rfl rfl (by omega) (wp_wr (l2 := [(r_Md_row, A), (r_Md_rows, Y), (r_Md_leads, Z), (r_Md_sizes, SZ), (r_Md_rowStart, RS), (r_Md_quadratic, (fun _ => 0))]) rfl ?_)
            show en_wp k_X12_nothing 65 [some (.inr (.inr (r_Md, 0))), some (.inl i)] [] (srl σ [(r_Md_row, A), (r_Md_rows, Y), (r_Md_leads, Z), (r_Md_sizes, SZ), (r_Md_rowStart, RS), (r_Md_quadratic, (fun _ => 0))]) _
            refine wp_run 2 (pc' := 12) (ls' := [some (.inr (.inr (r_Md, 0))), some (.inl (i + 1))]) (st' := []) (σ' := srl σ [(r_Md_row, A), (r_Md_rows, Y), (r_Md_leads, Z), (r_Md_sizes, SZ), (r_Md_rowStart, RS), (r_Md_quadratic, (fun _ => 0))]) rfl ?_
            exact ih_12 (i + 1) A Y Z SZ RS (fun _ => 0) (by omega) hN hA hY3 hZ3 (nqS_bad hi.1 (by omega) (by assumption) (by assumption)) (by omega)
  refine wp_run 2 (pc' := 2) (ls' := [some (.inr (.inr (r_Md, 0))), none]) (st' := [.inl 0, .inr (.inr (r_Md, 0))]) (σ' := srl σ []) rfl ?_
  refine wp_callv rfl rfl rfl rfl (ct_X12_fills_0 σ n D p LW hI hrow hrows hlead hm hll hlw gLW) ?_
  rintro _ _ ⟨f_19, f_20, f_21, f_22, f_23, rfl, rfl, p_24, p_25, p_26, p_27, p_28, p_29, p_30, p_31⟩
  have p_24 : ∀ d, 0 ≤ d → d ≤ D → mNd f_23 f_20 f_21 f_22 0 n D p LW d := p_24
  have p_25 : ∀ x, (x < 9 * 0 ∨ 9 * 0 + 9 ≤ x) → f_23 x = (σ r_Md_rowStart) x := p_25
  have p_26 : ∀ x, (x < 9 * 0 ∨ 9 * 0 + 9 ≤ x) → f_22 x = (σ r_Md_sizes) x := p_26
  have p_27 : ∀ x, (x < 70000 * 0 ∨ 70000 * 0 + 70000 ≤ x) → f_20 x = (σ r_Md_rows) x := p_27
  have p_28 : ∀ x, (x < 400 * 0 ∨ 400 * 0 + 400 ≤ x) → f_21 x = (σ r_Md_leads) x := p_28
  have p_29 : R97 f_19 := p_29
  have p_30 : R97 f_20 := p_30
  have p_31 : R01 f_21 := p_31
  show en_wp k_X12_nothing 5 [some (.inr (.inr (r_Md, 0))), none] [] (srl σ [(r_Md_row, f_19), (r_Md_rows, f_20), (r_Md_leads, f_21), (r_Md_sizes, f_22), (r_Md_rowStart, f_23)]) _
  have k0 := (⟨p_24, p_25, p_26, p_27, p_28, p_29, p_30, p_31⟩ : _ ∧ _ ∧ _ ∧ _ ∧ _ ∧ _ ∧ _ ∧ _)
  refine wp_run 2 (pc' := 7) (ls' := [some (.inr (.inr (r_Md, 0))), none]) (st' := [.inl 1, .inr (.inr (r_Md, 0))]) (σ' := srl σ [(r_Md_row, f_19), (r_Md_rows, f_20), (r_Md_leads, f_21), (r_Md_sizes, f_22), (r_Md_rowStart, f_23)]) rfl ?_
  refine wp_put1 rfl rfl rfl rfl (by omega) (wp_wr (l2 := [(r_Md_row, f_19), (r_Md_rows, f_20), (r_Md_leads, f_21), (r_Md_sizes, f_22), (r_Md_rowStart, f_23), (r_Md_quadratic, (fun _ => 1))]) rfl ?_)
  show en_wp k_X12_nothing 10 [some (.inr (.inr (r_Md, 0))), none] [] (srl σ [(r_Md_row, f_19), (r_Md_rows, f_20), (r_Md_leads, f_21), (r_Md_sizes, f_22), (r_Md_rowStart, f_23), (r_Md_quadratic, (fun _ => 1))]) _
  refine wp_run 2 (pc' := 12) (ls' := [some (.inr (.inr (r_Md, 0))), some (.inl 0)]) (st' := []) (σ' := srl σ [(r_Md_row, f_19), (r_Md_rows, f_20), (r_Md_leads, f_21), (r_Md_sizes, f_22), (r_Md_rowStart, f_23), (r_Md_quadratic, (fun _ => 1))]) rfl ?_
  exact L_12 _ 0 f_19 f_20 f_21 f_22 f_23 (fun _ => 1) (by omega) k0.1 k0.2.2.2.2.2.1 k0.2.2.2.2.2.2.1 k0.2.2.2.2.2.2.2 nqS_0 (Nat.lt_succ_self _)
theorem ct_X12_isOpen (σ : en_m) (n : Int) (D : Int) (p : Int) (a : Int) (u : Int) (b : Int) (v : Int) (hI : mI σ n D p) (ha : 1 ≤ a ∧ a ≤ D) (hu : 0 ≤ u ∧ u < sW n D a) (hb : 1 ≤ b ∧ b ≤ D) (hv : 0 ≤ v ∧ v < sW n D b) : en_ct z_X12_isOpen [.inr (.inr (r_Md, 0)), .inl a, .inl u, .inl b, .inl v] σ (fun r σ' => ∃ (rr : Int), r = some (.inl rr) ∧ σ' = srl σ [] ∧ ((rr = 1 ∧ opn n D a u b v) ∨ (rr = 0 ∧ ¬ opn n D a u b v))) := by
  show en_wp k_X12_isOpen 0 [some (.inr (.inr (r_Md, 0))), some (.inl a), some (.inl u), some (.inl b), some (.inl v), none] [] (srl σ []) (fun r σ' => ∃ (rr : Int), r = some (.inl rr) ∧ σ' = srl σ [] ∧ ((rr = 1 ∧ opn n D a u b v) ∨ (rr = 0 ∧ ¬ opn n D a u b v)))
  have hI2 := hI
  obtain ⟨hO, hL, hn, hD, hp, hpw, hst⟩ := hI2
  obtain ⟨⟨hO1, hO2⟩, ⟨hO3, hO4⟩, hO5, hO6, hO7, hO8⟩ := id hO
  have hWa := sW_b (k := a) hO
  have hWb := sW_b (k := b) hO
  have L_3 : ∀ (N : Nat) (o : Int), (1 ≤ o ∧ o ≤ a ∧ o ≤ b) → (∀ k, 1 ≤ k → k < o → ¬ (D < a + b - k ∧ u % sW n D k = v / sW n D (b - k))) → (a - o).toNat < N → en_wp k_X12_isOpen 3 [some (.inr (.inr (r_Md, 0))), some (.inl a), some (.inl u), some (.inl b), some (.inl v), some (.inl o)] [] (srl σ []) (fun r σ' => ∃ (rr : Int), r = some (.inl rr) ∧ σ' = srl σ [] ∧ ((rr = 1 ∧ opn n D a u b v) ∨ (rr = 0 ∧ ¬ opn n D a u b v))) := by
    intro N
    induction N with
    | zero => intro o; intros; omega
    | succ N ih_3 =>
      intro o ho hno hN_3
      refine wp_run 2 (pc' := 6) (ls' := [some (.inr (.inr (r_Md, 0))), some (.inl a), some (.inl u), some (.inl b), some (.inl v), some (.inl o)]) (st' := [.inl a, .inl o]) (σ' := srl σ []) rfl ?_
      refine wp_ic_ge rfl (by omega) (by omega) (fun h_1 => ?_) (fun h_1 => ?_)
      · show en_wp k_X12_isOpen 63 [some (.inr (.inr (r_Md, 0))), some (.inl a), some (.inl u), some (.inl b), some (.inl v), some (.inl o)] [] (srl σ []) _
        refine wp_run 1 (pc' := 64) (ls' := [some (.inr (.inr (r_Md, 0))), some (.inl a), some (.inl u), some (.inl b), some (.inl v), some (.inl o)]) (st' := [.inl 0]) (σ' := srl σ []) rfl ?_
        exact wp_zret rfl (.inl rfl) ⟨0, rfl, srl_eq (l' := []) trivial trivial, (.inr ⟨rfl, fun ⟨k, h5, h6, h7, h8, h9⟩ => hno k h5 (by omega) ⟨h8, h9⟩⟩)⟩
      · show en_wp k_X12_isOpen 9 [some (.inr (.inr (r_Md, 0))), some (.inl a), some (.inl u), some (.inl b), some (.inl v), some (.inl o)] [] (srl σ []) _
        refine wp_run 2 (pc' := 12) (ls' := [some (.inr (.inr (r_Md, 0))), some (.inl a), some (.inl u), some (.inl b), some (.inl v), some (.inl o)]) (st' := [.inl b, .inl o]) (σ' := srl σ []) rfl ?_
        refine wp_ic_ge rfl (by omega) (by omega) (fun h_2 => ?_) (fun h_2 => ?_)
        · show en_wp k_X12_isOpen 63 [some (.inr (.inr (r_Md, 0))), some (.inl a), some (.inl u), some (.inl b), some (.inl v), some (.inl o)] [] (srl σ []) _
          refine wp_run 1 (pc' := 64) (ls' := [some (.inr (.inr (r_Md, 0))), some (.inl a), some (.inl u), some (.inl b), some (.inl v), some (.inl o)]) (st' := [.inl 0]) (σ' := srl σ []) rfl ?_
          exact wp_zret rfl (.inl rfl) ⟨0, rfl, srl_eq (l' := []) trivial trivial, (.inr ⟨rfl, fun ⟨k, h5, h6, h7, h8, h9⟩ => hno k h5 (by omega) ⟨h8, h9⟩⟩)⟩
        · show en_wp k_X12_isOpen 15 [some (.inr (.inr (r_Md, 0))), some (.inl a), some (.inl u), some (.inl b), some (.inl v), some (.inl o)] [] (srl σ []) _
          refine wp_run 9 (pc' := 29) (ls' := [some (.inr (.inr (r_Md, 0))), some (.inl a), some (.inl u), some (.inl b), some (.inl v), some (.inl o)]) (st' := [.inl (σ r_Md_live 0), .inr (.inr (r_Md_degree, 0)), .inl ((a + b) - o)]) (σ' := srl σ []) rfl ?_
          refine wp_iald0 rfl rfl (by omega) ?_
          show en_wp k_X12_isOpen 30 [some (.inr (.inr (r_Md, 0))), some (.inl a), some (.inl u), some (.inl b), some (.inl v), some (.inl o)] [.inl (σ r_Md_degree (σ r_Md_live 0)), .inl ((a + b) - o)] (srl σ []) _
          rw [hD]
          show en_wp k_X12_isOpen 30 [some (.inr (.inr (r_Md, 0))), some (.inl a), some (.inl u), some (.inl b), some (.inl v), some (.inl o)] [.inl D, .inl ((a + b) - o)] (srl σ []) _
          refine wp_ic_le rfl (by omega) (by omega) (fun h_3 => ?_) (fun h_3 => ?_)
          · show en_wp k_X12_isOpen 57 [some (.inr (.inr (r_Md, 0))), some (.inl a), some (.inl u), some (.inl b), some (.inl v), some (.inl o)] [] (srl σ []) _
            refine wp_run 2 (pc' := 3) (ls' := [some (.inr (.inr (r_Md, 0))), some (.inl a), some (.inl u), some (.inl b), some (.inl v), some (.inl (o + 1))]) (st' := []) (σ' := srl σ []) rfl ?_
            exact ih_3 (o + 1) (by omega) (fun k h8 h9 => by rcases Int.lt_or_eq_of_le (show k ≤ o by omega) with h5 | h5 <;> first | exact hno k h8 h5 | (rw [h5]; omega)) (by omega)
          · show en_wp k_X12_isOpen 33 [some (.inr (.inr (r_Md, 0))), some (.inl a), some (.inl u), some (.inl b), some (.inl v), some (.inl o)] [] (srl σ []) _
            refine wp_run 3 (pc' := 37) (ls' := [some (.inr (.inr (r_Md, 0))), some (.inl a), some (.inl u), some (.inl b), some (.inl v), some (.inl o)]) (st' := [.inl o, .inr (.inr (r_Md, 0)), .inl u]) (σ' := srl σ []) rfl ?_
            refine wp_fnv (v := .inl (sW n D o)) rfl rfl rfl rfl (ct_X12_wide σ n D p o hI (by omega)) ?_
            show en_wp k_X12_isOpen 40 [some (.inr (.inr (r_Md, 0))), some (.inl a), some (.inl u), some (.inl b), some (.inl v), some (.inl o)] [.inl (sW n D o), .inl u] (srl σ []) _
            have q_4 : 0 ≤ sW n D o ∧ sW n D o ≤ 256 := sW_b hO
            have hpo := sW_p hO (show 0 ≤ o by omega) (show o ≤ a by omega) hu
            refine wp_iremp rfl (by omega) (by omega) ?_
            show en_wp k_X12_isOpen 41 [some (.inr (.inr (r_Md, 0))), some (.inl a), some (.inl u), some (.inl b), some (.inl v), some (.inl o)] [.inl (u % (sW n D o))] (srl σ []) _
            refine wp_run 5 (pc' := 48) (ls' := [some (.inr (.inr (r_Md, 0))), some (.inl a), some (.inl u), some (.inl b), some (.inl v), some (.inl o)]) (st' := [.inl (b - o), .inr (.inr (r_Md, 0)), .inl v, .inl (u % (sW n D o))]) (σ' := srl σ []) rfl ?_
            refine wp_fnv (v := .inl (sW n D (b - o))) rfl rfl rfl rfl (ct_X12_wide σ n D p (b - o) hI (by omega)) ?_
            show en_wp k_X12_isOpen 51 [some (.inr (.inr (r_Md, 0))), some (.inl a), some (.inl u), some (.inl b), some (.inl v), some (.inl o)] [.inl (sW n D (b - o)), .inl v, .inl (u % (sW n D o))] (srl σ []) _
            have q_5 : 0 ≤ sW n D (b - o) ∧ sW n D (b - o) ≤ 256 := sW_b hO
            have hpb := sW_p hO (show 0 ≤ b - o by omega) (show b - o ≤ b by omega) hv
            refine wp_idivp rfl (by omega) (by omega) ?_
            show en_wp k_X12_isOpen 52 [some (.inr (.inr (r_Md, 0))), some (.inl a), some (.inl u), some (.inl b), some (.inl v), some (.inl o)] [.inl (v / (sW n D (b - o))), .inl (u % (sW n D o))] (srl σ []) _
            have hm1 := Int.emod_nonneg u (show sW n D o ≠ 0 by omega)
            have hm2 := Int.emod_lt_of_pos u (show 0 < sW n D o by omega)
            have hm3 := sW_b (k := o) hO
            have hd1 := Int.ediv_nonneg hv.1 (show 0 ≤ sW n D (b - o) by omega)
            have hd2 := Int.ediv_le_self (sW n D (b - o)) hv.1
            refine wp_ic_ne rfl (by omega) (by omega) (fun h_6 => ?_) (fun h_6 => ?_)
            · show en_wp k_X12_isOpen 57 [some (.inr (.inr (r_Md, 0))), some (.inl a), some (.inl u), some (.inl b), some (.inl v), some (.inl o)] [] (srl σ []) _
              refine wp_run 2 (pc' := 3) (ls' := [some (.inr (.inr (r_Md, 0))), some (.inl a), some (.inl u), some (.inl b), some (.inl v), some (.inl (o + 1))]) (st' := []) (σ' := srl σ []) rfl ?_
              exact ih_3 (o + 1) (by omega) (fun k h8 h9 => by rcases Int.lt_or_eq_of_le (show k ≤ o by omega) with h5 | h5 <;> first | exact hno k h8 h5 | (rw [h5]; omega)) (by omega)
            · show en_wp k_X12_isOpen 55 [some (.inr (.inr (r_Md, 0))), some (.inl a), some (.inl u), some (.inl b), some (.inl v), some (.inl o)] [] (srl σ []) _
              refine wp_run 1 (pc' := 56) (ls' := [some (.inr (.inr (r_Md, 0))), some (.inl a), some (.inl u), some (.inl b), some (.inl v), some (.inl o)]) (st' := [.inl 1]) (σ' := srl σ []) rfl ?_
              exact wp_zret rfl (.inr rfl) ⟨1, rfl, srl_eq (l' := []) trivial trivial, (.inl ⟨rfl, o, by omega, by omega, by omega, by omega, by assumption⟩)⟩
  refine wp_run 2 (pc' := 3) (ls' := [some (.inr (.inr (r_Md, 0))), some (.inl a), some (.inl u), some (.inl b), some (.inl v), some (.inl 1)]) (st' := []) (σ' := srl σ []) rfl ?_
  exact L_3 _ 1 (by omega) (fun k h8 h9 => by omega) (Nat.lt_succ_self _)
theorem ct_X12_closed (σ : en_m) (n : Int) (D : Int) (p : Int) (hI : mI σ n D p) (hlead : R01 ((σ r_Md_leads))) : en_ct z_X12_closed [.inr (.inr (r_Md, 0))] σ (fun r σ' => ∃ (rr : Int), r = some (.inl rr) ∧ σ' = srl σ [] ∧ ((rr = 1 ∧ cls ((σ r_Md_leads)) n D) ∨ (rr = 0 ∧ ¬ cls ((σ r_Md_leads)) n D))) := by
  show en_wp k_X12_closed 0 [some (.inr (.inr (r_Md, 0))), none, none, none, none] [] (srl σ []) (fun r σ' => ∃ (rr : Int), r = some (.inl rr) ∧ σ' = srl σ [] ∧ ((rr = 1 ∧ cls ((σ r_Md_leads)) n D) ∨ (rr = 0 ∧ ¬ cls ((σ r_Md_leads)) n D)))
  have hI2 := hI
  obtain ⟨hO, hL, hn, hD, hp, hpw, hst⟩ := hI2
  obtain ⟨⟨hO1, hO2⟩, ⟨hO3, hO4⟩, hO5, hO6, hO7, hO8⟩ := id hO
  have L_2 : ∀ (N : Nat) (a : Int), (1 ≤ a ∧ a ≤ D + 1) → (cl2 (σ r_Md_leads) n D a 0) → (D + 1 - a).toNat < N → en_wp k_X12_closed 2 [some (.inr (.inr (r_Md, 0))), some (.inl a), none, none, none] [] (srl σ []) (fun r σ' => ∃ (rr : Int), r = some (.inl rr) ∧ σ' = srl σ [] ∧ ((rr = 1 ∧ cls ((σ r_Md_leads)) n D) ∨ (rr = 0 ∧ ¬ cls ((σ r_Md_leads)) n D))) := by
    intro N
    induction N with
    | zero => intro a; intros; omega
    | succ N ih_2 =>
      intro a ha h2 hN_2
      have hWa := sW_b (k := a) hO
      have L_17 : ∀ (N : Nat) (u : Int), (a ≤ D) → (0 ≤ u ∧ u ≤ sW n D a) → (cl2 (σ r_Md_leads) n D a u) → (sW n D a - u).toNat < N → en_wp k_X12_closed 17 [some (.inr (.inr (r_Md, 0))), some (.inl a), some (.inl u), none, none] [] (srl σ []) (fun r σ' => ∃ (rr : Int), r = some (.inl rr) ∧ σ' = srl σ [] ∧ ((rr = 1 ∧ cls ((σ r_Md_leads)) n D) ∨ (rr = 0 ∧ ¬ cls ((σ r_Md_leads)) n D))) := by
        intro N
        induction N with
        | zero => intro u; intros; omega
        | succ N ih_17 =>
          intro u haD hu h3 hN_17
          have L_40 : ∀ (N : Nat) (b : Int), (a ≤ D) → (0 ≤ u ∧ u < sW n D a) → (isB (σ r_Md_leads) n D a u) → (1 ≤ b ∧ b ≤ D + 1) → (cl1 (σ r_Md_leads) n D a u b 0) → (D + 1 - b).toNat < N → en_wp k_X12_closed 40 [some (.inr (.inr (r_Md, 0))), some (.inl a), some (.inl u), some (.inl b), none] [] (srl σ []) (fun r σ' => ∃ (rr : Int), r = some (.inl rr) ∧ σ' = srl σ [] ∧ ((rr = 1 ∧ cls ((σ r_Md_leads)) n D) ∨ (rr = 0 ∧ ¬ cls ((σ r_Md_leads)) n D))) := by
            intro N
            induction N with
            | zero => intro b; intros; omega
            | succ N ih_40 =>
              intro b haD huu hbu hb h4 hN_40
              have hWb := sW_b (k := b) hO
              have L_56 : ∀ (N : Nat) (v : Int), (b ≤ D) → (0 ≤ v ∧ v ≤ sW n D b) → (cl1 (σ r_Md_leads) n D a u b v) → (sW n D b - v).toNat < N → en_wp k_X12_closed 56 [some (.inr (.inr (r_Md, 0))), some (.inl a), some (.inl u), some (.inl b), some (.inl v)] [] (srl σ []) (fun r σ' => ∃ (rr : Int), r = some (.inl rr) ∧ σ' = srl σ [] ∧ ((rr = 1 ∧ cls ((σ r_Md_leads)) n D) ∨ (rr = 0 ∧ ¬ cls ((σ r_Md_leads)) n D))) := by
                intro N
                induction N with
                | zero => intro v; intros; omega
                | succ N ih_56 =>
                  intro v hbD hv h5 hN_56
                  refine wp_run 3 (pc' := 60) (ls' := [some (.inr (.inr (r_Md, 0))), some (.inl a), some (.inl u), some (.inl b), some (.inl v)]) (st' := [.inl b, .inr (.inr (r_Md, 0)), .inl v]) (σ' := srl σ []) rfl ?_
                  refine wp_fnv (v := .inl (sW n D b)) rfl rfl rfl rfl (ct_X12_wide σ n D p b hI (by omega)) ?_
                  show en_wp k_X12_closed 63 [some (.inr (.inr (r_Md, 0))), some (.inl a), some (.inl u), some (.inl b), some (.inl v)] [.inl (sW n D b), .inl v] (srl σ []) _
                  have q_1 : 0 ≤ sW n D b ∧ sW n D b ≤ 256 := sW_b hO
                  refine wp_ic_ge rfl (by omega) (by omega) (fun h_2 => ?_) (fun h_2 => ?_)
                  · show en_wp k_X12_closed 96 [some (.inr (.inr (r_Md, 0))), some (.inl a), some (.inl u), some (.inl b), some (.inl v)] [] (srl σ []) _
                    refine wp_run 2 (pc' := 40) (ls' := [some (.inr (.inr (r_Md, 0))), some (.inl a), some (.inl u), some (.inl (b + 1)), some (.inl v)]) (st' := []) (σ' := srl σ []) rfl ?_
                    refine wp_sub (l := [some (.inr (.inr (r_Md, 0))), some (.inl a), some (.inl u), some (.inl (b + 1)), none]) (And.intro rfl (And.intro rfl (And.intro rfl (And.intro rfl trivial)))) ?_
                    exact ih_40 (b + 1) (by omega) (by omega) hbu (by omega) (cl1_b h5 (by omega)) (by omega)
                  · show en_wp k_X12_closed 66 [some (.inr (.inr (r_Md, 0))), some (.inl a), some (.inl u), some (.inl b), some (.inl v)] [] (srl σ []) _
                    refine wp_run 3 (pc' := 70) (ls' := [some (.inr (.inr (r_Md, 0))), some (.inl a), some (.inl u), some (.inl b), some (.inl v)]) (st' := [.inl v, .inl b, .inr (.inr (r_Md, 0))]) (σ' := srl σ []) rfl ?_
                    refine wp_fnv (v := .inl (bI (isB ((σ r_Md_leads)) n D b v))) rfl rfl rfl rfl (ct_X12_isBase σ n D p b v hI (by omega) (by omega) hlead) ?_
                    show en_wp k_X12_closed 73 [some (.inr (.inr (r_Md, 0))), some (.inl a), some (.inl u), some (.inl b), some (.inl v)] [.inl (bI (isB ((σ r_Md_leads)) n D b v))] (srl σ []) _
                    refine wp_if_eqb rfl (fun h_3 => ?_) (fun h_3 => ?_)
                    · have hbv0 := h_3
                      show en_wp k_X12_closed 90 [some (.inr (.inr (r_Md, 0))), some (.inl a), some (.inl u), some (.inl b), some (.inl v)] [] (srl σ []) _
                      refine wp_run 2 (pc' := 56) (ls' := [some (.inr (.inr (r_Md, 0))), some (.inl a), some (.inl u), some (.inl b), some (.inl (v + 1))]) (st' := []) (σ' := srl σ []) rfl ?_
                      exact ih_56 (v + 1) (by omega) (by omega) (cl1_v h5 (fun h => absurd h hbv0)) (by omega)
                    · have hbv := h_3
                      show en_wp k_X12_closed 76 [some (.inr (.inr (r_Md, 0))), some (.inl a), some (.inl u), some (.inl b), some (.inl v)] [] (srl σ []) _
                      refine wp_run 5 (pc' := 82) (ls' := [some (.inr (.inr (r_Md, 0))), some (.inl a), some (.inl u), some (.inl b), some (.inl v)]) (st' := [.inl v, .inl b, .inl u, .inl a, .inr (.inr (r_Md, 0))]) (σ' := srl σ []) rfl ?_
                      refine wp_callv rfl rfl rfl rfl (ct_X12_isOpen σ n D p a u b v hI (by omega) (by omega) (by omega) (by omega)) ?_
                      rintro _ _ ⟨r_4, rfl, rfl, p_5⟩
                      have p_5 : (r_4 = 1 ∧ opn n D a u b v) ∨ (r_4 = 0 ∧ ¬ opn n D a u b v) := p_5
                      show en_wp k_X12_closed 85 [some (.inr (.inr (r_Md, 0))), some (.inl a), some (.inl u), some (.inl b), some (.inl v)] [.inl r_4] (srl σ []) _
                      have hop := p_5
                      have hop1 : r_4 = 0 ∨ r_4 = 1 := by rcases hop with h | h <;> omega
                      refine wp_if_eq rfl (by omega) (fun h_6 => ?_) (fun h_6 => ?_)
                      · have hno : ¬ opn n D a u b v := by rcases hop with h | h; exfalso; omega; exact h.2
                        show en_wp k_X12_closed 90 [some (.inr (.inr (r_Md, 0))), some (.inl a), some (.inl u), some (.inl b), some (.inl v)] [] (srl σ []) _
                        refine wp_run 2 (pc' := 56) (ls' := [some (.inr (.inr (r_Md, 0))), some (.inl a), some (.inl u), some (.inl b), some (.inl (v + 1))]) (st' := []) (σ' := srl σ []) rfl ?_
                        exact ih_56 (v + 1) (by omega) (by omega) (cl1_v h5 (fun _ => hno)) (by omega)
                      · have hyes : opn n D a u b v := by rcases hop with h | h; exact h.2; exfalso; omega
                        show en_wp k_X12_closed 88 [some (.inr (.inr (r_Md, 0))), some (.inl a), some (.inl u), some (.inl b), some (.inl v)] [] (srl σ []) _
                        refine wp_run 1 (pc' := 89) (ls' := [some (.inr (.inr (r_Md, 0))), some (.inl a), some (.inl u), some (.inl b), some (.inl v)]) (st' := [.inl 0]) (σ' := srl σ []) rfl ?_
                        exact wp_zret rfl (.inl rfl) ⟨0, rfl, srl_eq (l' := []) trivial trivial, (.inr ⟨rfl, cl_no (by omega) huu hbu (by omega) (by omega) hbv hyes⟩)⟩
              refine wp_run 5 (pc' := 49) (ls' := [some (.inr (.inr (r_Md, 0))), some (.inl a), some (.inl u), some (.inl b), none]) (st' := [.inl (σ r_Md_live 0), .inr (.inr (r_Md_degree, 0)), .inl b]) (σ' := srl σ []) rfl ?_
              refine wp_iald0 rfl rfl (by omega) ?_
              show en_wp k_X12_closed 50 [some (.inr (.inr (r_Md, 0))), some (.inl a), some (.inl u), some (.inl b), none] [.inl (σ r_Md_degree (σ r_Md_live 0)), .inl b] (srl σ []) _
              rw [hD]
              show en_wp k_X12_closed 50 [some (.inr (.inr (r_Md, 0))), some (.inl a), some (.inl u), some (.inl b), none] [.inl D, .inl b] (srl σ []) _
              refine wp_ic_gt rfl (by omega) (by omega) (fun h_7 => ?_) (fun h_7 => ?_)
              · show en_wp k_X12_closed 102 [some (.inr (.inr (r_Md, 0))), some (.inl a), some (.inl u), some (.inl b), none] [] (srl σ []) _
                refine wp_run 2 (pc' := 17) (ls' := [some (.inr (.inr (r_Md, 0))), some (.inl a), some (.inl (u + 1)), some (.inl b), none]) (st' := []) (σ' := srl σ []) rfl ?_
                refine wp_sub (l := [some (.inr (.inr (r_Md, 0))), some (.inl a), some (.inl (u + 1)), none, none]) (And.intro rfl (And.intro rfl (And.intro rfl trivial))) ?_
                exact ih_17 (u + 1) (by omega) (by omega) (cl2_u h3 (fun _ => cl1_e h4 (by omega))) (by omega)
              · show en_wp k_X12_closed 53 [some (.inr (.inr (r_Md, 0))), some (.inl a), some (.inl u), some (.inl b), none] [] (srl σ []) _
                refine wp_run 2 (pc' := 56) (ls' := [some (.inr (.inr (r_Md, 0))), some (.inl a), some (.inl u), some (.inl b), some (.inl 0)]) (st' := []) (σ' := srl σ []) rfl ?_
                exact L_56 _ 0 (by omega) (by omega) h4 (Nat.lt_succ_self _)
          refine wp_run 3 (pc' := 20) (ls' := [some (.inr (.inr (r_Md, 0))), some (.inl a), some (.inl u), none, none]) (st' := [.inl a, .inr (.inr (r_Md, 0)), .inl u]) (σ' := srl σ []) rfl ?_
          refine wp_fnv (v := .inl (sW n D a)) rfl rfl rfl rfl (ct_X12_wide σ n D p a hI (by omega)) ?_
          show en_wp k_X12_closed 23 [some (.inr (.inr (r_Md, 0))), some (.inl a), some (.inl u), none, none] [.inl (sW n D a), .inl u] (srl σ []) _
          have q_8 : 0 ≤ sW n D a ∧ sW n D a ≤ 256 := sW_b hO
          refine wp_ic_ge rfl (by omega) (by omega) (fun h_9 => ?_) (fun h_9 => ?_)
          · show en_wp k_X12_closed 108 [some (.inr (.inr (r_Md, 0))), some (.inl a), some (.inl u), none, none] [] (srl σ []) _
            refine wp_run 2 (pc' := 2) (ls' := [some (.inr (.inr (r_Md, 0))), some (.inl (a + 1)), some (.inl u), none, none]) (st' := []) (σ' := srl σ []) rfl ?_
            refine wp_sub (l := [some (.inr (.inr (r_Md, 0))), some (.inl (a + 1)), none, none, none]) (And.intro rfl (And.intro rfl trivial)) ?_
            exact ih_2 (a + 1) (by omega) (cl2_a h3 (by omega)) (by omega)
          · show en_wp k_X12_closed 26 [some (.inr (.inr (r_Md, 0))), some (.inl a), some (.inl u), none, none] [] (srl σ []) _
            refine wp_run 3 (pc' := 29) (ls' := [some (.inr (.inr (r_Md, 0))), some (.inl a), some (.inl u), none, none]) (st' := [.inl u, .inl a, .inr (.inr (r_Md, 0))]) (σ' := srl σ []) rfl ?_
            refine wp_fnv (v := .inl (bI (isB ((σ r_Md_leads)) n D a u))) rfl rfl rfl rfl (ct_X12_isBase σ n D p a u hI (by omega) (by omega) hlead) ?_
            show en_wp k_X12_closed 32 [some (.inr (.inr (r_Md, 0))), some (.inl a), some (.inl u), none, none] [.inl (bI (isB ((σ r_Md_leads)) n D a u))] (srl σ []) _
            refine wp_if_neb rfl (fun h_10 => ?_) (fun h_10 => ?_)
            · have hbu := h_10
              show en_wp k_X12_closed 38 [some (.inr (.inr (r_Md, 0))), some (.inl a), some (.inl u), none, none] [] (srl σ []) _
              refine wp_run 2 (pc' := 40) (ls' := [some (.inr (.inr (r_Md, 0))), some (.inl a), some (.inl u), some (.inl 1), none]) (st' := []) (σ' := srl σ []) rfl ?_
              exact L_40 _ 1 (by omega) (by omega) hbu (by omega) cl1_0 (Nat.lt_succ_self _)
            · have hbu0 := h_10
              show en_wp k_X12_closed 35 [some (.inr (.inr (r_Md, 0))), some (.inl a), some (.inl u), none, none] [] (srl σ []) _
              refine wp_run 3 (pc' := 17) (ls' := [some (.inr (.inr (r_Md, 0))), some (.inl a), some (.inl (u + 1)), none, none]) (st' := []) (σ' := srl σ []) rfl ?_
              exact ih_17 (u + 1) (by omega) (by omega) (cl2_u h3 (fun h => absurd h hbu0)) (by omega)
      refine wp_run 5 (pc' := 11) (ls' := [some (.inr (.inr (r_Md, 0))), some (.inl a), none, none, none]) (st' := [.inl (σ r_Md_live 0), .inr (.inr (r_Md_degree, 0)), .inl a]) (σ' := srl σ []) rfl ?_
      refine wp_iald0 rfl rfl (by omega) ?_
      show en_wp k_X12_closed 12 [some (.inr (.inr (r_Md, 0))), some (.inl a), none, none, none] [.inl (σ r_Md_degree (σ r_Md_live 0)), .inl a] (srl σ []) _
      rw [hD]
      show en_wp k_X12_closed 12 [some (.inr (.inr (r_Md, 0))), some (.inl a), none, none, none] [.inl D, .inl a] (srl σ []) _
      refine wp_ic_gt rfl (by omega) (by omega) (fun h_11 => ?_) (fun h_11 => ?_)
      · show en_wp k_X12_closed 114 [some (.inr (.inr (r_Md, 0))), some (.inl a), none, none, none] [] (srl σ []) _
        refine wp_run 1 (pc' := 115) (ls' := [some (.inr (.inr (r_Md, 0))), some (.inl a), none, none, none]) (st' := [.inl 1]) (σ' := srl σ []) rfl ?_
        exact wp_zret rfl (.inr rfl) ⟨1, rfl, srl_eq (l' := []) trivial trivial, (.inl ⟨rfl, cl2_e h2 (by omega)⟩)⟩
      · show en_wp k_X12_closed 15 [some (.inr (.inr (r_Md, 0))), some (.inl a), none, none, none] [] (srl σ []) _
        refine wp_run 2 (pc' := 17) (ls' := [some (.inr (.inr (r_Md, 0))), some (.inl a), some (.inl 0), none, none]) (st' := []) (σ' := srl σ []) rfl ?_
        exact L_17 _ 0 (by omega) (by omega) h2 (Nat.lt_succ_self _)
  refine wp_run 2 (pc' := 2) (ls' := [some (.inr (.inr (r_Md, 0))), some (.inl 1), none, none, none]) (st' := []) (σ' := srl σ []) rfl ?_
  exact L_2 _ 1 (by omega) cl2_0 (Nat.lt_succ_self _)
