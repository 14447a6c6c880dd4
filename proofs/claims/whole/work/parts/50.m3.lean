/-! contracts of methods, walked (written by wip/whole/walk.py from the annotations ann_m3) -/
theorem ct_X12_joinsLaw (σ : en_m) (n : Int) (D : Int) (p : Int) (V : (Int → Int) → Prop) (k : Int) (d : Int) (hI : mI σ n D p) (hk : 0 ≤ k ∧ k ≤ 7) (hd : 0 ≤ d ∧ d ≤ D) (hrs : (σ r_Md_rowStart) (9 * 0 + d) = sQ n D d) (hrow : R97 ((σ r_Md_row))) (hrows : R97 ((σ r_Md_rows))) (hlead : R01 ((σ r_Md_leads))) (gcd : mD p (sW n D d) V (fun k x => (σ r_Md_rows) (70000 * 0 + sQ n D d + k * sW n D d + x)) (fun x => (σ r_Md_leads) (400 * 0 + sS n D d + x))) (gl : ∀ j, 0 ≤ j → j < sW n D d → 0 ≤ (fun j => (σ r_Md_lawRow) (256 * (8 * (σ r_Md_live) 0 + k) + j)) j ∧ (fun j => (σ r_Md_lawRow) (256 * (8 * (σ r_Md_live) 0 + k) + j)) j < p) : en_ct z_X12_joinsLaw [.inr (.inr (r_Md, 0)), .inl k, .inl d] σ (fun r σ' => ∃ (f_Md_row : Int → Int), ∃ (f_Md_rows : Int → Int), ∃ (f_Md_leads : Int → Int), r = none ∧ σ' = srl σ [(r_Md_row, f_Md_row), (r_Md_rows, f_Md_rows), (r_Md_leads, f_Md_leads)] ∧ (mD p (sW n D d) (vAdd V (fun j => (σ r_Md_lawRow) (256 * (8 * (σ r_Md_live) 0 + k) + j))) (fun k x => f_Md_rows (70000 * 0 + sQ n D d + k * sW n D d + x)) (fun x => f_Md_leads (400 * 0 + sS n D d + x))) ∧ (∀ x, (x < 70000 * 0 + sQ n D d ∨ 70000 * 0 + sQ n D d + sW n D d * sW n D d ≤ x) → f_Md_rows x = (σ r_Md_rows) x) ∧ (∀ x, (x < 400 * 0 + sS n D d ∨ 400 * 0 + sS n D d + sW n D d ≤ x) → f_Md_leads x = (σ r_Md_leads) x) ∧ (R97 f_Md_row) ∧ (R97 f_Md_rows) ∧ (R01 f_Md_leads)) := by
  show en_wp k_X12_joinsLaw 0 [some (.inr (.inr (r_Md, 0))), some (.inl k), some (.inl d), none] [] (srl σ []) (fun r σ' => ∃ (f_Md_row : Int → Int), ∃ (f_Md_rows : Int → Int), ∃ (f_Md_leads : Int → Int), r = none ∧ σ' = srl σ [(r_Md_row, f_Md_row), (r_Md_rows, f_Md_rows), (r_Md_leads, f_Md_leads)] ∧ (mD p (sW n D d) (vAdd V (fun j => (σ r_Md_lawRow) (256 * (8 * (σ r_Md_live) 0 + k) + j))) (fun k x => f_Md_rows (70000 * 0 + sQ n D d + k * sW n D d + x)) (fun x => f_Md_leads (400 * 0 + sS n D d + x))) ∧ (∀ x, (x < 70000 * 0 + sQ n D d ∨ 70000 * 0 + sQ n D d + sW n D d * sW n D d ≤ x) → f_Md_rows x = (σ r_Md_rows) x) ∧ (∀ x, (x < 400 * 0 + sS n D d ∨ 400 * 0 + sS n D d + sW n D d ≤ x) → f_Md_leads x = (σ r_Md_leads) x) ∧ (R97 f_Md_row) ∧ (R97 f_Md_rows) ∧ (R01 f_Md_leads))
  have hI2 := hI
  obtain ⟨hO, hL, hn, hD, hp, hpw, hst⟩ := hI2
  obtain ⟨⟨hO1, hO2⟩, ⟨hO3, hO4⟩, hO5, hO6, hO7, hO8⟩ := id hO
  have hWb := sW_b (k := d) hO
  have hlw : ∀ j, 0 ≤ j → j < sW n D d → 0 ≤ σ r_Md_lawRow (256 * (8 * σ r_Md_live 0 + k) + j) ∧ σ r_Md_lawRow (256 * (8 * σ r_Md_live 0 + k) + j) < p := gl
  have L_2 : ∀ (N : Nat) (w : Int) (A : Int → Int), (0 ≤ w ∧ w ≤ sW n D d) → (A = seg (σ r_Md_row) 0 w (fun j => σ r_Md_lawRow (256 * (8 * σ r_Md_live 0 + k) + j))) → (sW n D d - w).toNat < N → en_wp k_X12_joinsLaw 2 [some (.inr (.inr (r_Md, 0))), some (.inl k), some (.inl d), some (.inl w)] [] (srl σ [(r_Md_row, A)]) (fun r σ' => ∃ (f_Md_row : Int → Int), ∃ (f_Md_rows : Int → Int), ∃ (f_Md_leads : Int → Int), r = none ∧ σ' = srl σ [(r_Md_row, f_Md_row), (r_Md_rows, f_Md_rows), (r_Md_leads, f_Md_leads)] ∧ (mD p (sW n D d) (vAdd V (fun j => (σ r_Md_lawRow) (256 * (8 * (σ r_Md_live) 0 + k) + j))) (fun k x => f_Md_rows (70000 * 0 + sQ n D d + k * sW n D d + x)) (fun x => f_Md_leads (400 * 0 + sS n D d + x))) ∧ (∀ x, (x < 70000 * 0 + sQ n D d ∨ 70000 * 0 + sQ n D d + sW n D d * sW n D d ≤ x) → f_Md_rows x = (σ r_Md_rows) x) ∧ (∀ x, (x < 400 * 0 + sS n D d ∨ 400 * 0 + sS n D d + sW n D d ≤ x) → f_Md_leads x = (σ r_Md_leads) x) ∧ (R97 f_Md_row) ∧ (R97 f_Md_rows) ∧ (R01 f_Md_leads)) := by
    intro N
    induction N with
    | zero => intro w A; intros; omega
    | succ N ih_2 =>
      intro w A hw hA hN_2
      refine wp_run 3 (pc' := 5) (ls' := [some (.inr (.inr (r_Md, 0))), some (.inl k), some (.inl d), some (.inl w)]) (st' := [.inl d, .inr (.inr (r_Md, 0)), .inl w]) (σ' := srl σ [(r_Md_row, A)]) rfl ?_
      refine wp_fnv (v := .inl (sW n D d)) rfl rfl rfl rfl (ct_X12_wide (srl σ [(r_Md_row, A)]) n D p d hI (by omega)) ?_
      show en_wp k_X12_joinsLaw 8 [some (.inr (.inr (r_Md, 0))), some (.inl k), some (.inl d), some (.inl w)] [.inl (sW n D d), .inl w] (srl σ [(r_Md_row, A)]) _
      have q_1 : 0 ≤ sW n D d ∧ sW n D d ≤ 256 := sW_b hO
      refine wp_ic_ge rfl (by omega) (by omega) (fun h_2 => ?_) (fun h_2 => ?_)
      · show en_wp k_X12_joinsLaw 43 [some (.inr (.inr (r_Md, 0))), some (.inl k), some (.inl d), some (.inl w)] [] (srl σ [(r_Md_row, A)]) _
        refine wp_run 3 (pc' := 46) (ls' := [some (.inr (.inr (r_Md, 0))), some (.inl k), some (.inl d), some (.inl w)]) (st' := [.inl d, .inl 0, .inr (.inr (r_Md, 0))]) (σ' := srl σ [(r_Md_row, A)]) rfl ?_
        have hAw : w = sW n D d := by omega
        rw [hAw] at hA
        have hAx : ∀ j, 0 ≤ j → j < sW n D d → A j = σ r_Md_lawRow (256 * (8 * σ r_Md_live 0 + k) + j) := fun j h8 h9 => by rw [hA, seg_in0 ⟨h8, h9⟩]
        have hA2 : R97 A := by
          rw [hA]
          exact R97_seg hrow (fun j h8 h9 => by have := hlw j h8 h9; omega)
        have hA3 : ∀ j, 0 ≤ j → j < sW n D d → 0 ≤ A j ∧ A j < p := fun j h8 h9 => by rw [hAx j h8 h9]; exact hlw j h8 h9
        refine wp_callv rfl rfl rfl rfl (ct_X12_joins (srl σ [(r_Md_row, A)]) n D p V 0 d hI (by omega) (by omega) hrs hA2 hrows hlead hA3 gcd) ?_
        rintro _ _ ⟨f_3, f_4, f_5, rfl, rfl, p_6, p_7, p_8, p_9, p_10, p_11⟩
        have p_6 : mD p (sW n D d) (vAdd V (A)) (fun k x => f_4 (70000 * 0 + sQ n D d + k * sW n D d + x)) (fun x => f_5 (400 * 0 + sS n D d + x)) := p_6
        have p_7 : ∀ x, (x < 70000 * 0 + sQ n D d ∨ 70000 * 0 + sQ n D d + sW n D d * sW n D d ≤ x) → f_4 x = (σ r_Md_rows) x := p_7
        have p_8 : ∀ x, (x < 400 * 0 + sS n D d ∨ 400 * 0 + sS n D d + sW n D d ≤ x) → f_5 x = (σ r_Md_leads) x := p_8
        have p_9 : R97 f_3 := p_9
        have p_10 : R97 f_4 := p_10
        have p_11 : R01 f_5 := p_11
        refine wp_bk (l2 := [(r_Md_row, f_3), (r_Md_rows, f_4), (r_Md_leads, f_5)]) rfl rfl ?_
        show en_wp k_X12_joinsLaw 49 [some (.inr (.inr (r_Md, 0))), some (.inl k), some (.inl d), some (.inl w)] [] (srl σ [(r_Md_row, f_3), (r_Md_rows, f_4), (r_Md_leads, f_5)]) _
        have kk := (⟨p_6, p_7, p_8, p_9, p_10, p_11⟩ : _ ∧ _ ∧ _ ∧ _ ∧ _ ∧ _)
        exact wp_vret rfl ⟨f_3, f_4, f_5, rfl, srl_eq (l' := [(r_Md_row, f_3), (r_Md_rows, f_4), (r_Md_leads, f_5)]) (And.intro rfl (And.intro rfl (And.intro rfl trivial))) (And.intro rfl (And.intro rfl (And.intro rfl trivial))), ⟨(vAdd_congr (mD_sub gcd) (fun j h8 h9 => mE_of (hAx j h8 h9))) ▸ kk.1, kk.2⟩⟩
      · show en_wp k_X12_joinsLaw 11 [some (.inr (.inr (r_Md, 0))), some (.inl k), some (.inl d), some (.inl w)] [] (srl σ [(r_Md_row, A)]) _
        refine wp_run 15 (pc' := 35) (ls' := [some (.inr (.inr (r_Md, 0))), some (.inl k), some (.inl d), some (.inl w)]) (st' := [.inl ((256 * ((8 * (σ r_Md_live 0)) + k)) + w), .inr (.inr (r_Md_lawRow, 0)), .inl w, .inr (.inr (r_Md_row, 0))]) (σ' := srl σ [(r_Md_row, A)]) rfl ?_
        refine wp_iald0 rfl rfl (by omega) ?_
        show en_wp k_X12_joinsLaw 36 [some (.inr (.inr (r_Md, 0))), some (.inl k), some (.inl d), some (.inl w)] [.inl (σ r_Md_lawRow ((256 * ((8 * (σ r_Md_live 0)) + k)) + w)), .inl w, .inr (.inr (r_Md_row, 0))] (srl σ [(r_Md_row, A)]) _
        refine wp_iast0 rfl rfl (by omega) (wp_wr (l2 := [(r_Md_row, (up A w (σ r_Md_lawRow ((256 * ((8 * (σ r_Md_live 0)) + k)) + w))))]) rfl ?_)
        show en_wp k_X12_joinsLaw 37 [some (.inr (.inr (r_Md, 0))), some (.inl k), some (.inl d), some (.inl w)] [] (srl σ [(r_Md_row, (up A w (σ r_Md_lawRow ((256 * ((8 * (σ r_Md_live 0)) + k)) + w))))]) _
        refine wp_run 2 (pc' := 2) (ls' := [some (.inr (.inr (r_Md, 0))), some (.inl k), some (.inl d), some (.inl (w + 1))]) (st' := []) (σ' := srl σ [(r_Md_row, (up A w (σ r_Md_lawRow ((256 * ((8 * (σ r_Md_live 0)) + k)) + w))))]) rfl ?_
        exact ih_2 (w + 1) (up A w (σ r_Md_lawRow ((256 * ((8 * (σ r_Md_live 0)) + k)) + w))) (by omega) (by rw [hA]; exact seg_up0 hw.1 rfl) (by omega)
  refine wp_run 2 (pc' := 2) (ls' := [some (.inr (.inr (r_Md, 0))), some (.inl k), some (.inl d), some (.inl 0)]) (st' := []) (σ' := srl σ []) rfl ?_
  refine wp_mem (srl_eq (l' := [(r_Md_row, (σ r_Md_row))]) trivial (And.intro rfl trivial)) ?_
  exact L_2 _ 0 (σ r_Md_row) (by omega) (seg_0 _ _ _).symm (Nat.lt_succ_self _)
theorem ct_X12_plainOf (σ : en_m) (n : Int) (D : Int) (p : Int) (V : (Int → Int) → Prop) (d : Int) (l : Int) (w : Int) (hI : mI σ n D p) (hd : 0 ≤ d ∧ d ≤ D) (hrs : (σ r_Md_rowStart) (9 * 0 + d) = sQ n D d) (hrow : R97 ((σ r_Md_row))) (hrows : R97 ((σ r_Md_rows))) (hlead : R01 ((σ r_Md_leads))) (gcd : mD p (sW n D d) V (fun k x => (σ r_Md_rows) (70000 * 0 + sQ n D d + k * sW n D d + x)) (fun x => (σ r_Md_leads) (400 * 0 + sS n D d + x))) (hl : 0 ≤ l ∧ l < sW n D d) (hll : (σ r_Md_leads) (400 * 0 + sS n D d + l) = 1) (hw : 0 ≤ w ∧ w < sW n D d) : en_ct z_X12_plainOf [.inr (.inr (r_Md, 0)), .inl d, .inl l, .inl w] σ (fun r σ' => ∃ (f_Md_spare : Int → Int), ∃ (f_Md_row : Int → Int), ∃ (rr : Int), r = some (.inl rr) ∧ σ' = srl σ [(r_Md_spare, f_Md_spare), (r_Md_row, f_Md_row)] ∧ (f_Md_row = (σ r_Md_row)) ∧ (∃ X, isNF p (sW n D d) V (fun j => if j = l then 0 else (σ r_Md_rows) (70000 * 0 + sQ n D d + l * sW n D d + j)) X ∧ rr = X w)) := by
  show en_wp k_X12_plainOf 0 [some (.inr (.inr (r_Md, 0))), some (.inl d), some (.inl l), some (.inl w), none, none, none] [] (srl σ []) (fun r σ' => ∃ (f_Md_spare : Int → Int), ∃ (f_Md_row : Int → Int), ∃ (rr : Int), r = some (.inl rr) ∧ σ' = srl σ [(r_Md_spare, f_Md_spare), (r_Md_row, f_Md_row)] ∧ (f_Md_row = (σ r_Md_row)) ∧ (∃ X, isNF p (sW n D d) V (fun j => if j = l then 0 else (σ r_Md_rows) (70000 * 0 + sQ n D d + l * sW n D d + j)) X ∧ rr = X w))
  have hI2 := hI
  obtain ⟨hO, hL, hn, hD, hp, hpw, hst⟩ := hI2
  obtain ⟨⟨hO1, hO2⟩, ⟨hO3, hO4⟩, hO5, hO6, hO7, hO8⟩ := id hO
  have hWb := sW_b (k := d) hO
  have hQ0 := sQ_mono (n := n) (D := D) hO.1.1 (Int.le_refl 0) hd.1
  rw [sQ_0] at hQ0
  have hrl := gcd.2.2.2.1 l
  have L_106 : ∀ (N : Nat) (k : Int) (x : Int) (S : Int → Int) (X : Int → Int) (Y : Int → Int), (0 ≤ k ∧ k ≤ sW n D d) → (S = seg (σ r_Md_spare) 0 (sW n D d) (σ r_Md_row)) → (isNF p (sW n D d) V (fun j => if j = l then 0 else σ r_Md_rows (70000 * 0 + sQ n D d + l * sW n D d + j)) X ∧ x = X w) → (∀ j, ¬ (0 ≤ j ∧ j < sW n D d) → X j = σ r_Md_row j) → (Y = seg X 0 k (σ r_Md_row)) → (sW n D d - k).toNat < N → en_wp k_X12_plainOf 106 [some (.inr (.inr (r_Md, 0))), some (.inl d), some (.inl l), some (.inl w), none, some (.inl x), some (.inl k)] [] (srl σ [(r_Md_spare, S), (r_Md_row, Y)]) (fun r σ' => ∃ (f_Md_spare : Int → Int), ∃ (f_Md_row : Int → Int), ∃ (rr : Int), r = some (.inl rr) ∧ σ' = srl σ [(r_Md_spare, f_Md_spare), (r_Md_row, f_Md_row)] ∧ (f_Md_row = (σ r_Md_row)) ∧ (∃ X, isNF p (sW n D d) V (fun j => if j = l then 0 else (σ r_Md_rows) (70000 * 0 + sQ n D d + l * sW n D d + j)) X ∧ rr = X w)) := by
    intro N
    induction N with
    | zero => intro k x S X Y; intros; omega
    | succ N ih_106 =>
      intro k x S X Y hk hS hX hX2 hY hN_106
      refine wp_run 3 (pc' := 110) (ls' := [some (.inr (.inr (r_Md, 0))), some (.inl d), some (.inl l), some (.inl w), none, some (.inl x), some (.inl k)]) (st' := [.inl d, .inr (.inr (r_Md, 0)), .inl k]) (σ' := srl σ [(r_Md_spare, S), (r_Md_row, Y)]) rfl ?_
      refine wp_fnv (v := .inl (sW n D d)) rfl rfl rfl rfl (ct_X12_wide (srl σ [(r_Md_spare, S), (r_Md_row, Y)]) n D p d hI (by omega)) ?_
      show en_wp k_X12_plainOf 113 [some (.inr (.inr (r_Md, 0))), some (.inl d), some (.inl l), some (.inl w), none, some (.inl x), some (.inl k)] [.inl (sW n D d), .inl k] (srl σ [(r_Md_spare, S), (r_Md_row, Y)]) _
      have q_1 : 0 ≤ sW n D d ∧ sW n D d ≤ 256 := sW_b hO
      refine wp_ic_ge rfl (by omega) (by omega) (fun h_2 => ?_) (fun h_2 => ?_)
      · show en_wp k_X12_plainOf 136 [some (.inr (.inr (r_Md, 0))), some (.inl d), some (.inl l), some (.inl w), none, some (.inl x), some (.inl k)] [] (srl σ [(r_Md_spare, S), (r_Md_row, Y)]) _
        refine wp_run 1 (pc' := 138) (ls' := [some (.inr (.inr (r_Md, 0))), some (.inl d), some (.inl l), some (.inl w), none, some (.inl x), some (.inl k)]) (st' := [.inl x]) (σ' := srl σ [(r_Md_spare, S), (r_Md_row, Y)]) rfl ?_
        exact wp_iret rfl ⟨S, Y, x, rfl, srl_eq (l' := [(r_Md_spare, S), (r_Md_row, Y)]) (And.intro rfl (And.intro rfl trivial)) (And.intro rfl (And.intro rfl trivial)), ⟨pl_back hY hX2 (by omega), X, hX⟩⟩
      · show en_wp k_X12_plainOf 116 [some (.inr (.inr (r_Md, 0))), some (.inl d), some (.inl l), some (.inl w), none, some (.inl x), some (.inl k)] [] (srl σ [(r_Md_spare, S), (r_Md_row, Y)]) _
        refine wp_run 6 (pc' := 128) (ls' := [some (.inr (.inr (r_Md, 0))), some (.inl d), some (.inl l), some (.inl w), none, some (.inl x), some (.inl k)]) (st' := [.inl k, .inr (.inr (r_Md_spare, 0)), .inl k, .inr (.inr (r_Md_row, 0))]) (σ' := srl σ [(r_Md_spare, S), (r_Md_row, Y)]) rfl ?_
        refine wp_iald0 rfl rfl (by omega) ?_
        show en_wp k_X12_plainOf 129 [some (.inr (.inr (r_Md, 0))), some (.inl d), some (.inl l), some (.inl w), none, some (.inl x), some (.inl k)] [.inl (S k), .inl k, .inr (.inr (r_Md_row, 0))] (srl σ [(r_Md_spare, S), (r_Md_row, Y)]) _
        refine wp_iast0 rfl rfl (by omega) (wp_wr (l2 := [(r_Md_spare, S), (r_Md_row, (up Y k (S k)))]) rfl ?_)
        show en_wp k_X12_plainOf 130 [some (.inr (.inr (r_Md, 0))), some (.inl d), some (.inl l), some (.inl w), none, some (.inl x), some (.inl k)] [] (srl σ [(r_Md_spare, S), (r_Md_row, (up Y k (S k)))]) _
        refine wp_run 2 (pc' := 106) (ls' := [some (.inr (.inr (r_Md, 0))), some (.inl d), some (.inl l), some (.inl w), none, some (.inl x), some (.inl (k + 1))]) (st' := []) (σ' := srl σ [(r_Md_spare, S), (r_Md_row, (up Y k (S k)))]) rfl ?_
        exact ih_106 (k + 1) x S _ (up Y k (S k)) (by omega) hS hX hX2 (by rw [hY]; exact seg_up0 hk.1 (by rw [hS, seg_in0 (by omega)])) (by omega)
  have L_45 : ∀ (N : Nat) (k : Int) (S : Int → Int) (B : Int → Int), (0 ≤ k ∧ k ≤ sW n D d) → (S = seg (σ r_Md_spare) 0 (sW n D d) (σ r_Md_row)) → (B = seg (σ r_Md_row) 0 k (fun j => if j = l then 0 else σ r_Md_rows (70000 * 0 + sQ n D d + l * sW n D d + j))) → (sW n D d - k).toNat < N → en_wp k_X12_plainOf 45 [some (.inr (.inr (r_Md, 0))), some (.inl d), some (.inl l), some (.inl w), some (.inl (70000 * 0 + sQ n D d + l * sW n D d)), some (.inl k), none] [] (srl σ [(r_Md_spare, S), (r_Md_row, B)]) (fun r σ' => ∃ (f_Md_spare : Int → Int), ∃ (f_Md_row : Int → Int), ∃ (rr : Int), r = some (.inl rr) ∧ σ' = srl σ [(r_Md_spare, f_Md_spare), (r_Md_row, f_Md_row)] ∧ (f_Md_row = (σ r_Md_row)) ∧ (∃ X, isNF p (sW n D d) V (fun j => if j = l then 0 else (σ r_Md_rows) (70000 * 0 + sQ n D d + l * sW n D d + j)) X ∧ rr = X w)) := by
    intro N
    induction N with
    | zero => intro k S B; intros; omega
    | succ N ih_45 =>
      intro k S B hk hS hB hN_45
      refine wp_run 3 (pc' := 49) (ls' := [some (.inr (.inr (r_Md, 0))), some (.inl d), some (.inl l), some (.inl w), some (.inl (70000 * 0 + sQ n D d + l * sW n D d)), some (.inl k), none]) (st' := [.inl d, .inr (.inr (r_Md, 0)), .inl k]) (σ' := srl σ [(r_Md_spare, S), (r_Md_row, B)]) rfl ?_
      refine wp_fnv (v := .inl (sW n D d)) rfl rfl rfl rfl (ct_X12_wide (srl σ [(r_Md_spare, S), (r_Md_row, B)]) n D p d hI (by omega)) ?_
      show en_wp k_X12_plainOf 52 [some (.inr (.inr (r_Md, 0))), some (.inl d), some (.inl l), some (.inl w), some (.inl (70000 * 0 + sQ n D d + l * sW n D d)), some (.inl k), none] [.inl (sW n D d), .inl k] (srl σ [(r_Md_spare, S), (r_Md_row, B)]) _
      have q_3 : 0 ≤ sW n D d ∧ sW n D d ≤ 256 := sW_b hO
      refine wp_ic_ge rfl (by omega) (by omega) (fun h_4 => ?_) (fun h_4 => ?_)
      · show en_wp k_X12_plainOf 88 [some (.inr (.inr (r_Md, 0))), some (.inl d), some (.inl l), some (.inl w), some (.inl (70000 * 0 + sQ n D d + l * sW n D d)), some (.inl k), none] [] (srl σ [(r_Md_spare, S), (r_Md_row, B)]) _
        refine wp_run 3 (pc' := 91) (ls' := [some (.inr (.inr (r_Md, 0))), some (.inl d), some (.inl l), some (.inl w), some (.inl (70000 * 0 + sQ n D d + l * sW n D d)), some (.inl k), none]) (st' := [.inl d, .inl 0, .inr (.inr (r_Md, 0))]) (σ' := srl σ [(r_Md_spare, S), (r_Md_row, B)]) rfl ?_
        have hkW : k = sW n D d := by omega
        rw [hkW] at hB
        have hB97 : R97 B := by
          rw [hB]
          exact R97_seg hrow (fun j _ _ => by have := hrows (70000 * 0 + sQ n D d + l * sW n D d + j); split <;> omega)
        have hBp : ∀ j, 0 ≤ j → j < sW n D d → 0 ≤ B j ∧ B j < p := fun j h8 h9 => by
          rw [hB, seg_in0 ⟨h8, h9⟩]
          have := hrl j hl.1 hl.2 hll h8 h9
          split
          · omega
          · exact this
        refine wp_callv rfl rfl rfl rfl (ct_X12_reduces (srl σ [(r_Md_spare, S), (r_Md_row, B)]) n D p 0 d hI (by omega) (by omega) hrs hB97 hrows hlead hBp (fun k h0 h1 e => gcd.2.1 k h0 h1 e)) ?_
        rintro _ _ ⟨f_5, r_6, rfl, rfl, p_7⟩
        have p_7 : rdI p (sW n D d) (fun x => (σ r_Md_leads) (400 * 0 + sS n D d + x)) (fun k x => (σ r_Md_rows) (70000 * 0 + sQ n D d + k * sW n D d + x)) (B) f_5 (-1) r_6 := p_7
        refine wp_bk (l2 := [(r_Md_spare, S), (r_Md_row, f_5)]) rfl rfl ?_
        show en_wp k_X12_plainOf 94 [some (.inr (.inr (r_Md, 0))), some (.inl d), some (.inl l), some (.inl w), some (.inl (70000 * 0 + sQ n D d + l * sW n D d)), some (.inl k), none] [.inl r_6] (srl σ [(r_Md_spare, S), (r_Md_row, f_5)]) _
        have hrd := p_7
        have hnf := mD_rd gcd hO.2.2.2 hrd
        have hb6 := hrd.2.2.2.2.2
        refine wp_run 4 (pc' := 100) (ls' := [some (.inr (.inr (r_Md, 0))), some (.inl d), some (.inl l), some (.inl w), some (.inl (70000 * 0 + sQ n D d + l * sW n D d)), some (.inl k), none]) (st' := [.inl w, .inr (.inr (r_Md_row, 0))]) (σ' := srl σ [(r_Md_spare, S), (r_Md_row, f_5)]) rfl ?_
        refine wp_iald0 rfl rfl (by omega) ?_
        show en_wp k_X12_plainOf 101 [some (.inr (.inr (r_Md, 0))), some (.inl d), some (.inl l), some (.inl w), some (.inl (70000 * 0 + sQ n D d + l * sW n D d)), some (.inl k), none] [.inl (f_5 w)] (srl σ [(r_Md_spare, S), (r_Md_row, f_5)]) _
        refine wp_run 3 (pc' := 106) (ls' := [some (.inr (.inr (r_Md, 0))), some (.inl d), some (.inl l), some (.inl w), some (.inl (70000 * 0 + sQ n D d + l * sW n D d)), some (.inl (f_5 w)), some (.inl 0)]) (st' := []) (σ' := srl σ [(r_Md_spare, S), (r_Md_row, f_5)]) rfl ?_
        refine wp_sub (l := [some (.inr (.inr (r_Md, 0))), some (.inl d), some (.inl l), some (.inl w), none, some (.inl (f_5 w)), some (.inl 0)]) (And.intro rfl (And.intro rfl (And.intro rfl (And.intro rfl (And.intro rfl (And.intro rfl trivial)))))) ?_
        exact L_106 _ 0 (f_5 w) S _ f_5 (by omega) hS ⟨nf_src (mD_sub gcd) hnf (fun j h8 h9 => by rw [hB, seg_in0 ⟨h8, h9⟩]), rfl⟩ (fun j h9 => by rw [hb6 j h9, hB, seg_out (by omega)]) (seg_0 _ _ _).symm (Nat.lt_succ_self _)
      · show en_wp k_X12_plainOf 55 [some (.inr (.inr (r_Md, 0))), some (.inl d), some (.inl l), some (.inl w), some (.inl (70000 * 0 + sQ n D d + l * sW n D d)), some (.inl k), none] [] (srl σ [(r_Md_spare, S), (r_Md_row, B)]) _
        refine wp_run 5 (pc' := 64) (ls' := [some (.inr (.inr (r_Md, 0))), some (.inl d), some (.inl l), some (.inl w), some (.inl (70000 * 0 + sQ n D d + l * sW n D d)), some (.inl k), none]) (st' := [.inl l, .inl k, .inl k, .inr (.inr (r_Md_row, 0))]) (σ' := srl σ [(r_Md_spare, S), (r_Md_row, B)]) rfl ?_
        refine wp_ic_ne rfl (by omega) (by omega) (fun h_8 => ?_) (fun h_8 => ?_)
        · show en_wp k_X12_plainOf 71 [some (.inr (.inr (r_Md, 0))), some (.inl d), some (.inl l), some (.inl w), some (.inl (70000 * 0 + sQ n D d + l * sW n D d)), some (.inl k), none] [.inl k, .inr (.inr (r_Md_row, 0))] (srl σ [(r_Md_spare, S), (r_Md_row, B)]) _
          refine wp_run 5 (pc' := 80) (ls' := [some (.inr (.inr (r_Md, 0))), some (.inl d), some (.inl l), some (.inl w), some (.inl (70000 * 0 + sQ n D d + l * sW n D d)), some (.inl k), none]) (st' := [.inl ((70000 * 0 + sQ n D d + l * sW n D d) + k), .inr (.inr (r_Md_rows, 0)), .inl k, .inr (.inr (r_Md_row, 0))]) (σ' := srl σ [(r_Md_spare, S), (r_Md_row, B)]) rfl ?_
          have hat := sQ_in hO hd.1 hl (show 0 ≤ k ∧ k < sW n D d by omega)
          refine wp_iald0 rfl rfl (by omega) ?_
          show en_wp k_X12_plainOf 81 [some (.inr (.inr (r_Md, 0))), some (.inl d), some (.inl l), some (.inl w), some (.inl (70000 * 0 + sQ n D d + l * sW n D d)), some (.inl k), none] [.inl (σ r_Md_rows ((70000 * 0 + sQ n D d + l * sW n D d) + k)), .inl k, .inr (.inr (r_Md_row, 0))] (srl σ [(r_Md_spare, S), (r_Md_row, B)]) _
          refine wp_iast0 rfl rfl (by omega) (wp_wr (l2 := [(r_Md_spare, S), (r_Md_row, (up B k (σ r_Md_rows ((70000 * 0 + sQ n D d + l * sW n D d) + k))))]) rfl ?_)
          show en_wp k_X12_plainOf 82 [some (.inr (.inr (r_Md, 0))), some (.inl d), some (.inl l), some (.inl w), some (.inl (70000 * 0 + sQ n D d + l * sW n D d)), some (.inl k), none] [] (srl σ [(r_Md_spare, S), (r_Md_row, (up B k (σ r_Md_rows ((70000 * 0 + sQ n D d + l * sW n D d) + k))))]) _
          refine wp_run 2 (pc' := 45) (ls' := [some (.inr (.inr (r_Md, 0))), some (.inl d), some (.inl l), some (.inl w), some (.inl (70000 * 0 + sQ n D d + l * sW n D d)), some (.inl (k + 1)), none]) (st' := []) (σ' := srl σ [(r_Md_spare, S), (r_Md_row, (up B k (σ r_Md_rows ((70000 * 0 + sQ n D d + l * sW n D d) + k))))]) rfl ?_
          exact ih_45 (k + 1) S (up B k (σ r_Md_rows ((70000 * 0 + sQ n D d + l * sW n D d) + k))) (by omega) hS (by rw [hB]; exact seg_up0 hk.1 (by rw [if_neg (by assumption)])) (by omega)
        · show en_wp k_X12_plainOf 67 [some (.inr (.inr (r_Md, 0))), some (.inl d), some (.inl l), some (.inl w), some (.inl (70000 * 0 + sQ n D d + l * sW n D d)), some (.inl k), none] [.inl k, .inr (.inr (r_Md_row, 0))] (srl σ [(r_Md_spare, S), (r_Md_row, B)]) _
          refine wp_run 2 (pc' := 81) (ls' := [some (.inr (.inr (r_Md, 0))), some (.inl d), some (.inl l), some (.inl w), some (.inl (70000 * 0 + sQ n D d + l * sW n D d)), some (.inl k), none]) (st' := [.inl 0, .inl k, .inr (.inr (r_Md_row, 0))]) (σ' := srl σ [(r_Md_spare, S), (r_Md_row, B)]) rfl ?_
          refine wp_iast0 rfl rfl (by omega) (wp_wr (l2 := [(r_Md_spare, S), (r_Md_row, (up B k 0))]) rfl ?_)
          show en_wp k_X12_plainOf 82 [some (.inr (.inr (r_Md, 0))), some (.inl d), some (.inl l), some (.inl w), some (.inl (70000 * 0 + sQ n D d + l * sW n D d)), some (.inl k), none] [] (srl σ [(r_Md_spare, S), (r_Md_row, (up B k 0))]) _
          refine wp_run 2 (pc' := 45) (ls' := [some (.inr (.inr (r_Md, 0))), some (.inl d), some (.inl l), some (.inl w), some (.inl (70000 * 0 + sQ n D d + l * sW n D d)), some (.inl (k + 1)), none]) (st' := []) (σ' := srl σ [(r_Md_spare, S), (r_Md_row, (up B k 0))]) rfl ?_
          exact ih_45 (k + 1) S (up B k 0) (by omega) hS (by rw [hB]; exact seg_up0 hk.1 (by rw [if_pos (by assumption)])) (by omega)
  have L_12 : ∀ (N : Nat) (k : Int) (S : Int → Int), (0 ≤ k ∧ k ≤ sW n D d) → (S = seg (σ r_Md_spare) 0 k (σ r_Md_row)) → (sW n D d - k).toNat < N → en_wp k_X12_plainOf 12 [some (.inr (.inr (r_Md, 0))), some (.inl d), some (.inl l), some (.inl w), some (.inl (70000 * 0 + sQ n D d + l * sW n D d)), some (.inl k), none] [] (srl σ [(r_Md_spare, S)]) (fun r σ' => ∃ (f_Md_spare : Int → Int), ∃ (f_Md_row : Int → Int), ∃ (rr : Int), r = some (.inl rr) ∧ σ' = srl σ [(r_Md_spare, f_Md_spare), (r_Md_row, f_Md_row)] ∧ (f_Md_row = (σ r_Md_row)) ∧ (∃ X, isNF p (sW n D d) V (fun j => if j = l then 0 else (σ r_Md_rows) (70000 * 0 + sQ n D d + l * sW n D d + j)) X ∧ rr = X w)) := by
    intro N
    induction N with
    | zero => intro k S; intros; omega
    | succ N ih_12 =>
      intro k S hk hS hN_12
      refine wp_run 3 (pc' := 16) (ls' := [some (.inr (.inr (r_Md, 0))), some (.inl d), some (.inl l), some (.inl w), some (.inl (70000 * 0 + sQ n D d + l * sW n D d)), some (.inl k), none]) (st' := [.inl d, .inr (.inr (r_Md, 0)), .inl k]) (σ' := srl σ [(r_Md_spare, S)]) rfl ?_
      refine wp_fnv (v := .inl (sW n D d)) rfl rfl rfl rfl (ct_X12_wide (srl σ [(r_Md_spare, S)]) n D p d hI (by omega)) ?_
      show en_wp k_X12_plainOf 19 [some (.inr (.inr (r_Md, 0))), some (.inl d), some (.inl l), some (.inl w), some (.inl (70000 * 0 + sQ n D d + l * sW n D d)), some (.inl k), none] [.inl (sW n D d), .inl k] (srl σ [(r_Md_spare, S)]) _
      have q_9 : 0 ≤ sW n D d ∧ sW n D d ≤ 256 := sW_b hO
      refine wp_ic_ge rfl (by omega) (by omega) (fun h_10 => ?_) (fun h_10 => ?_)
      · show en_wp k_X12_plainOf 42 [some (.inr (.inr (r_Md, 0))), some (.inl d), some (.inl l), some (.inl w), some (.inl (70000 * 0 + sQ n D d + l * sW n D d)), some (.inl k), none] [] (srl σ [(r_Md_spare, S)]) _
        refine wp_run 2 (pc' := 45) (ls' := [some (.inr (.inr (r_Md, 0))), some (.inl d), some (.inl l), some (.inl w), some (.inl (70000 * 0 + sQ n D d + l * sW n D d)), some (.inl 0), none]) (st' := []) (σ' := srl σ [(r_Md_spare, S)]) rfl ?_
        refine wp_mem (srl_eq (l' := [(r_Md_spare, S), (r_Md_row, (σ r_Md_row))]) (And.intro rfl trivial) (And.intro rfl (And.intro rfl trivial))) ?_
        exact L_45 _ 0 S (σ r_Md_row) (by omega) (by rw [hS, show k = sW n D d by omega]) (seg_0 _ _ _).symm (Nat.lt_succ_self _)
      · show en_wp k_X12_plainOf 22 [some (.inr (.inr (r_Md, 0))), some (.inl d), some (.inl l), some (.inl w), some (.inl (70000 * 0 + sQ n D d + l * sW n D d)), some (.inl k), none] [] (srl σ [(r_Md_spare, S)]) _
        refine wp_run 6 (pc' := 34) (ls' := [some (.inr (.inr (r_Md, 0))), some (.inl d), some (.inl l), some (.inl w), some (.inl (70000 * 0 + sQ n D d + l * sW n D d)), some (.inl k), none]) (st' := [.inl k, .inr (.inr (r_Md_row, 0)), .inl k, .inr (.inr (r_Md_spare, 0))]) (σ' := srl σ [(r_Md_spare, S)]) rfl ?_
        refine wp_iald0 rfl rfl (by omega) ?_
        show en_wp k_X12_plainOf 35 [some (.inr (.inr (r_Md, 0))), some (.inl d), some (.inl l), some (.inl w), some (.inl (70000 * 0 + sQ n D d + l * sW n D d)), some (.inl k), none] [.inl (σ r_Md_row k), .inl k, .inr (.inr (r_Md_spare, 0))] (srl σ [(r_Md_spare, S)]) _
        refine wp_iast0 rfl rfl (by omega) (wp_wr (l2 := [(r_Md_spare, (up S k (σ r_Md_row k)))]) rfl ?_)
        show en_wp k_X12_plainOf 36 [some (.inr (.inr (r_Md, 0))), some (.inl d), some (.inl l), some (.inl w), some (.inl (70000 * 0 + sQ n D d + l * sW n D d)), some (.inl k), none] [] (srl σ [(r_Md_spare, (up S k (σ r_Md_row k)))]) _
        refine wp_run 2 (pc' := 12) (ls' := [some (.inr (.inr (r_Md, 0))), some (.inl d), some (.inl l), some (.inl w), some (.inl (70000 * 0 + sQ n D d + l * sW n D d)), some (.inl (k + 1)), none]) (st' := []) (σ' := srl σ [(r_Md_spare, (up S k (σ r_Md_row k)))]) rfl ?_
        exact ih_12 (k + 1) (up S k (σ r_Md_row k)) (by omega) (by rw [hS]; exact seg_up0 hk.1 rfl) (by omega)
  refine wp_run 4 (pc' := 4) (ls' := [some (.inr (.inr (r_Md, 0))), some (.inl d), some (.inl l), some (.inl w), none, none, none]) (st' := [.inl l, .inl d, .inl 0, .inr (.inr (r_Md, 0))]) (σ' := srl σ []) rfl ?_
  refine wp_fnv (v := .inl (70000 * 0 + sQ n D d + l * sW n D d)) rfl rfl rfl rfl (ct_X12_rowAt σ n D p 0 d l hI (by omega) (by omega) hrs (by omega)) ?_
  show en_wp k_X12_plainOf 7 [some (.inr (.inr (r_Md, 0))), some (.inl d), some (.inl l), some (.inl w), none, none, none] [.inl (70000 * 0 + sQ n D d + l * sW n D d)] (srl σ []) _
  refine wp_run 3 (pc' := 12) (ls' := [some (.inr (.inr (r_Md, 0))), some (.inl d), some (.inl l), some (.inl w), some (.inl (70000 * 0 + sQ n D d + l * sW n D d)), some (.inl 0), none]) (st' := []) (σ' := srl σ []) rfl ?_
  refine wp_mem (srl_eq (l' := [(r_Md_spare, (σ r_Md_spare))]) trivial (And.intro rfl trivial)) ?_
  exact L_12 _ 0 (σ r_Md_spare) (by omega) (seg_0 _ _ _).symm (Nat.lt_succ_self _)
