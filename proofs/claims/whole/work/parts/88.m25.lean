/-! contracts of methods, walked (written by wip/whole/walk.py from the annotations ann_m25) -/
theorem ct_X12_places (σ : en_m) (n : Int) (D : Int) (p : Int) (hI : mI σ n D p) (hlead : R01 ((σ r_Md_leads))) (hlf : R01 ((σ r_Md_isLeft))) : en_ct z_X12_places [.inr (.inr (r_Md, 0))] σ (fun r σ' => ∃ (v_Md_placeLetters : Int → Int), ∃ (f_Md_isLeft : Int → Int), r = none ∧ σ' = srl σ [(r_Md_placeLetters, v_Md_placeLetters), (r_Md_isLeft, f_Md_isLeft)] ∧ (isPL ((σ r_Md_leads)) n D (v_Md_placeLetters 0)) ∧ (∀ w, 0 ≤ w → w < sW n D (v_Md_placeLetters 0) → f_Md_isLeft w = bI ((σ r_Md_leads) (sS n D (v_Md_placeLetters 0) + w) = 0)) ∧ (R01 f_Md_isLeft)) := by
  show en_wp k_X12_places 0 [some (.inr (.inr (r_Md, 0))), none, none] [] (srl σ []) (fun r σ' => ∃ (v_Md_placeLetters : Int → Int), ∃ (f_Md_isLeft : Int → Int), r = none ∧ σ' = srl σ [(r_Md_placeLetters, v_Md_placeLetters), (r_Md_isLeft, f_Md_isLeft)] ∧ (isPL ((σ r_Md_leads)) n D (v_Md_placeLetters 0)) ∧ (∀ w, 0 ≤ w → w < sW n D (v_Md_placeLetters 0) → f_Md_isLeft w = bI ((σ r_Md_leads) (sS n D (v_Md_placeLetters 0) + w) = 0)) ∧ (R01 f_Md_isLeft))
  have hI2 := hI
  obtain ⟨hO, hL, hn, hD, hp, hpw, hst⟩ := hI2
  obtain ⟨⟨hO1, hO2⟩, ⟨hO3, hO4⟩, hO5, hO6, hO7, hO8⟩ := id hO
  have L_51 : ∀ (N : Nat) (w : Int) (QV : Int → Int) (X : Int → Int), (isPL (σ r_Md_leads) n D (QV 0)) → (0 ≤ w ∧ w ≤ sW n D (QV 0)) → (X = seg (σ r_Md_isLeft) 0 w (fun w => bI (σ r_Md_leads (sS n D (QV 0) + w) = 0))) → (sW n D (QV 0) - w).toNat < N → en_wp k_X12_places 51 [some (.inr (.inr (r_Md, 0))), none, some (.inl w)] [] (srl σ [(r_Md_placeLetters, QV), (r_Md_isLeft, X)]) (fun r σ' => ∃ (v_Md_placeLetters : Int → Int), ∃ (f_Md_isLeft : Int → Int), r = none ∧ σ' = srl σ [(r_Md_placeLetters, v_Md_placeLetters), (r_Md_isLeft, f_Md_isLeft)] ∧ (isPL ((σ r_Md_leads)) n D (v_Md_placeLetters 0)) ∧ (∀ w, 0 ≤ w → w < sW n D (v_Md_placeLetters 0) → f_Md_isLeft w = bI ((σ r_Md_leads) (sS n D (v_Md_placeLetters 0) + w) = 0)) ∧ (R01 f_Md_isLeft)) := by
    intro N
    induction N with
    | zero => intro w QV X; intros; omega
    | succ N ih_51 =>
      intro w QV X hq hw hX hN_51
      have hqb := isPL_b hq hO3
      have hWq := sW_b (k := QV 0) hO
      refine wp_run 4 (pc' := 57) (ls' := [some (.inr (.inr (r_Md, 0))), none, some (.inl w)]) (st' := [.inl (QV 0), .inr (.inr (r_Md, 0)), .inl w]) (σ' := srl σ [(r_Md_placeLetters, QV), (r_Md_isLeft, X)]) rfl ?_
      refine wp_fnv (v := .inl (sW n D (QV 0))) rfl rfl rfl rfl (ct_X12_wide (srl σ [(r_Md_placeLetters, QV), (r_Md_isLeft, X)]) n D p (QV 0) hI (by omega)) ?_
      show en_wp k_X12_places 60 [some (.inr (.inr (r_Md, 0))), none, some (.inl w)] [.inl (sW n D (QV 0)), .inl w] (srl σ [(r_Md_placeLetters, QV), (r_Md_isLeft, X)]) _
      have q_1 : 0 ≤ sW n D (QV 0) ∧ sW n D (QV 0) ≤ 256 := sW_b hO
      refine wp_ic_ge rfl (by omega) (by omega) (fun h_2 => ?_) (fun h_2 => ?_)
      · show en_wp k_X12_places 84 [some (.inr (.inr (r_Md, 0))), none, some (.inl w)] [] (srl σ [(r_Md_placeLetters, QV), (r_Md_isLeft, X)]) _
        exact wp_vret rfl ⟨QV, X, rfl, srl_eq (l' := [(r_Md_placeLetters, QV), (r_Md_isLeft, X)]) (And.intro rfl (And.intro rfl trivial)) (And.intro rfl (And.intro rfl trivial)), ⟨hq, fun w h8 h9 => by rw [hX, seg_in0 (by omega)], by rw [hX]; exact R01_seg hlf (fun _ _ _ => bI_01 _)⟩⟩
      · show en_wp k_X12_places 63 [some (.inr (.inr (r_Md, 0))), none, some (.inl w)] [] (srl σ [(r_Md_placeLetters, QV), (r_Md_isLeft, X)]) _
        refine wp_run 7 (pc' := 74) (ls' := [some (.inr (.inr (r_Md, 0))), none, some (.inl w)]) (st' := [.inl w, .inl (QV 0), .inr (.inr (r_Md, 0)), .inl w, .inr (.inr (r_Md_isLeft, 0))]) (σ' := srl σ [(r_Md_placeLetters, QV), (r_Md_isLeft, X)]) rfl ?_
        refine wp_fnv (v := .inl (bI ((σ r_Md_leads) (sS n D (QV 0) + w) = 0))) rfl rfl rfl rfl (ct_X12_isNormal (srl σ [(r_Md_placeLetters, QV), (r_Md_isLeft, X)]) n D p (QV 0) w hI (by omega) (by omega) hlead) ?_
        show en_wp k_X12_places 77 [some (.inr (.inr (r_Md, 0))), none, some (.inl w)] [.inl (bI ((σ r_Md_leads) (sS n D (QV 0) + w) = 0)), .inl w, .inr (.inr (r_Md_isLeft, 0))] (srl σ [(r_Md_placeLetters, QV), (r_Md_isLeft, X)]) _
        refine wp_zast0 rfl rfl (by omega) (bI_01 _) (wp_wr (l2 := [(r_Md_placeLetters, QV), (r_Md_isLeft, (up X w (bI ((σ r_Md_leads) (sS n D (QV 0) + w) = 0))))]) rfl ?_)
        show en_wp k_X12_places 78 [some (.inr (.inr (r_Md, 0))), none, some (.inl w)] [] (srl σ [(r_Md_placeLetters, QV), (r_Md_isLeft, (up X w (bI ((σ r_Md_leads) (sS n D (QV 0) + w) = 0))))]) _
        refine wp_run 2 (pc' := 51) (ls' := [some (.inr (.inr (r_Md, 0))), none, some (.inl (w + 1))]) (st' := []) (σ' := srl σ [(r_Md_placeLetters, QV), (r_Md_isLeft, (up X w (bI ((σ r_Md_leads) (sS n D (QV 0) + w) = 0))))]) rfl ?_
        exact ih_51 (w + 1) QV (up X w (bI ((σ r_Md_leads) (sS n D (QV 0) + w) = 0))) hq (by omega) (by rw [hX]; exact seg_up0 hw.1 rfl) (by omega)
  have L_4 : ∀ (N : Nat) (m : Int) (d : Int), (1 ≤ d ∧ d ≤ D + 1) → (mostS (σ r_Md_leads) n D m d) → (D + 1 - d).toNat < N → en_wp k_X12_places 4 [some (.inr (.inr (r_Md, 0))), some (.inl m), some (.inl d)] [] (srl σ []) (fun r σ' => ∃ (v_Md_placeLetters : Int → Int), ∃ (f_Md_isLeft : Int → Int), r = none ∧ σ' = srl σ [(r_Md_placeLetters, v_Md_placeLetters), (r_Md_isLeft, f_Md_isLeft)] ∧ (isPL ((σ r_Md_leads)) n D (v_Md_placeLetters 0)) ∧ (∀ w, 0 ≤ w → w < sW n D (v_Md_placeLetters 0) → f_Md_isLeft w = bI ((σ r_Md_leads) (sS n D (v_Md_placeLetters 0) + w) = 0)) ∧ (R01 f_Md_isLeft)) := by
    intro N
    induction N with
    | zero => intro m d; intros; omega
    | succ N ih_4 =>
      intro m d hd hm hN_4
      have hmb := mostS_b hm hd.1
      refine wp_run 5 (pc' := 13) (ls' := [some (.inr (.inr (r_Md, 0))), some (.inl m), some (.inl d)]) (st' := [.inl (σ r_Md_live 0), .inr (.inr (r_Md_degree, 0)), .inl d]) (σ' := srl σ []) rfl ?_
      refine wp_iald0 rfl rfl (by omega) ?_
      show en_wp k_X12_places 14 [some (.inr (.inr (r_Md, 0))), some (.inl m), some (.inl d)] [.inl (σ r_Md_degree (σ r_Md_live 0)), .inl d] (srl σ []) _
      rw [hD]
      show en_wp k_X12_places 14 [some (.inr (.inr (r_Md, 0))), some (.inl m), some (.inl d)] [.inl D, .inl d] (srl σ []) _
      refine wp_ic_gt rfl (by omega) (by omega) (fun h_3 => ?_) (fun h_3 => ?_)
      · show en_wp k_X12_places 33 [some (.inr (.inr (r_Md, 0))), some (.inl m), some (.inl d)] [] (srl σ []) _
        refine wp_run 3 (pc' := 36) (ls' := [some (.inr (.inr (r_Md, 0))), some (.inl m), some (.inl d)]) (st' := [.inl 2, .inl m, .inr (.inr (r_Md, 0))]) (σ' := srl σ []) rfl ?_
        refine wp_ic_le rfl (by omega) (by omega) (fun h_4 => ?_) (fun h_4 => ?_)
        · show en_wp k_X12_places 45 [some (.inr (.inr (r_Md, 0))), some (.inl m), some (.inl d)] [.inr (.inr (r_Md, 0))] (srl σ []) _
          refine wp_run 1 (pc' := 46) (ls' := [some (.inr (.inr (r_Md, 0))), some (.inl m), some (.inl d)]) (st' := [.inl 1, .inr (.inr (r_Md, 0))]) (σ' := srl σ []) rfl ?_
          refine wp_st (x := (49, [some (.inr (.inr (r_Md, 0))), some (.inl m), some (.inl d)], [], sr (srl σ []) r_Md_placeLetters (fun _ => 1))) rfl rfl (wp_wr (l2 := [(r_Md_placeLetters, (fun _ => 1))]) rfl ?_)
          show en_wp k_X12_places 49 [some (.inr (.inr (r_Md, 0))), some (.inl m), some (.inl d)] [] (srl σ [(r_Md_placeLetters, (fun _ => 1))]) _
          refine wp_run 2 (pc' := 51) (ls' := [some (.inr (.inr (r_Md, 0))), some (.inl m), some (.inl 0)]) (st' := []) (σ' := srl σ [(r_Md_placeLetters, (fun _ => 1))]) rfl ?_
          refine wp_mem (srl_eq (l' := [(r_Md_placeLetters, (fun _ => 1)), (r_Md_isLeft, (σ r_Md_isLeft))]) (And.intro rfl trivial) (And.intro rfl (And.intro rfl trivial))) ?_
          refine wp_sub (l := [some (.inr (.inr (r_Md, 0))), none, some (.inl 0)]) (And.intro rfl (And.intro rfl trivial)) ?_
          exact L_51 _ 0 (fun _ => 1) (σ r_Md_isLeft) (mostS_e hm (by omega) (.inr ⟨by omega, rfl⟩)) ⟨Int.le_refl 0, sW_nn hO.1.1⟩ (seg_0 _ _ _).symm (Nat.lt_succ_self _)
        · show en_wp k_X12_places 39 [some (.inr (.inr (r_Md, 0))), some (.inl m), some (.inl d)] [.inr (.inr (r_Md, 0))] (srl σ []) _
          refine wp_run 4 (pc' := 46) (ls' := [some (.inr (.inr (r_Md, 0))), some (.inl m), some (.inl d)]) (st' := [.inl (m - 1), .inr (.inr (r_Md, 0))]) (σ' := srl σ []) rfl ?_
          refine wp_st (x := (49, [some (.inr (.inr (r_Md, 0))), some (.inl m), some (.inl d)], [], sr (srl σ []) r_Md_placeLetters (fun _ => (m - 1)))) rfl rfl (wp_wr (l2 := [(r_Md_placeLetters, (fun _ => (m - 1)))]) rfl ?_)
          show en_wp k_X12_places 49 [some (.inr (.inr (r_Md, 0))), some (.inl m), some (.inl d)] [] (srl σ [(r_Md_placeLetters, (fun _ => (m - 1)))]) _
          refine wp_run 2 (pc' := 51) (ls' := [some (.inr (.inr (r_Md, 0))), some (.inl m), some (.inl 0)]) (st' := []) (σ' := srl σ [(r_Md_placeLetters, (fun _ => (m - 1)))]) rfl ?_
          refine wp_mem (srl_eq (l' := [(r_Md_placeLetters, (fun _ => (m - 1))), (r_Md_isLeft, (σ r_Md_isLeft))]) (And.intro rfl trivial) (And.intro rfl (And.intro rfl trivial))) ?_
          refine wp_sub (l := [some (.inr (.inr (r_Md, 0))), none, some (.inl 0)]) (And.intro rfl (And.intro rfl trivial)) ?_
          exact L_51 _ 0 (fun _ => (m - 1)) (σ r_Md_isLeft) (mostS_e hm (by omega) (.inl ⟨by omega, rfl⟩)) ⟨Int.le_refl 0, sW_nn hO.1.1⟩ (seg_0 _ _ _).symm (Nat.lt_succ_self _)
      · show en_wp k_X12_places 17 [some (.inr (.inr (r_Md, 0))), some (.inl m), some (.inl d)] [] (srl σ []) _
        refine wp_run 2 (pc' := 19) (ls' := [some (.inr (.inr (r_Md, 0))), some (.inl m), some (.inl d)]) (st' := [.inl d, .inr (.inr (r_Md, 0))]) (σ' := srl σ []) rfl ?_
        refine wp_fnv (v := .inl (cB ((σ r_Md_leads)) n D d)) rfl rfl rfl rfl (ct_X12_baseOf σ n D p d hI (by omega) hlead) ?_
        show en_wp k_X12_places 22 [some (.inr (.inr (r_Md, 0))), some (.inl m), some (.inl d)] [.inl (cB ((σ r_Md_leads)) n D d)] (srl σ []) _
        have q_5 : 0 ≤ cB ((σ r_Md_leads)) n D d ∧ cB ((σ r_Md_leads)) n D d ≤ 256 := cB_b _ hO
        refine wp_if_le rfl (by omega) (fun h_6 => ?_) (fun h_6 => ?_)
        · show en_wp k_X12_places 27 [some (.inr (.inr (r_Md, 0))), some (.inl m), some (.inl d)] [] (srl σ []) _
          refine wp_run 2 (pc' := 4) (ls' := [some (.inr (.inr (r_Md, 0))), some (.inl m), some (.inl (d + 1))]) (st' := []) (σ' := srl σ []) rfl ?_
          exact ih_4 m (d + 1) (by omega) (mostS_no hm (by omega)) (by omega)
        · show en_wp k_X12_places 25 [some (.inr (.inr (r_Md, 0))), some (.inl m), some (.inl d)] [] (srl σ []) _
          refine wp_run 4 (pc' := 4) (ls' := [some (.inr (.inr (r_Md, 0))), some (.inl d), some (.inl (d + 1))]) (st' := []) (σ' := srl σ []) rfl ?_
          exact ih_4 d (d + 1) (by omega) (mostS_yes hd.1 (by omega)) (by omega)
  refine wp_run 4 (pc' := 4) (ls' := [some (.inr (.inr (r_Md, 0))), some (.inl 0), some (.inl 1)]) (st' := []) (σ' := srl σ []) rfl ?_
  exact L_4 _ 0 1 (by omega) mostS_0 (Nat.lt_succ_self _)
theorem ct_X12_onFrom (σ : en_m) (n : Int) (D : Int) (p : Int) (q : Int) (w : Int) (x : Int) (hI : mI σ n D p) (hq : (σ r_Md_placeLetters) 0 = q ∧ isPL ((σ r_Md_leads)) n D q) (hlf : (∀ w, 0 ≤ w → w < sW n D q → (σ r_Md_isLeft) w = bI ((σ r_Md_leads) (sS n D q + w) = 0)) ∧ R01 ((σ r_Md_isLeft))) (hlead : R01 ((σ r_Md_leads))) (hw : 0 ≤ w ∧ w < sW n D q) (hx : 0 ≤ x ∧ x < n) : en_fn z_X12_onFrom [.inr (.inr (r_Md, 0)), .inl w, .inl x] σ (.inl (stp ((σ r_Md_leads)) n D q w x)) := by
  show en_wp k_X12_onFrom 0 [some (.inr (.inr (r_Md, 0))), some (.inl w), some (.inl x), none, none] [] (srl σ []) (fun r σ' => r = some (.inl (stp ((σ r_Md_leads)) n D q w x)) ∧ σ' = σ)
  have hI2 := hI
  obtain ⟨hO, hL, hn, hD, hp, hpw, hst⟩ := hI2
  obtain ⟨⟨hO1, hO2⟩, ⟨hO3, hO4⟩, hO5, hO6, hO7, hO8⟩ := id hO
  have hqb := isPL_b hq.2 hO3
  have hWq := sW_b (k := q) hO
  have hwn := Int.mul_nonneg hw.1 (show 0 ≤ n by omega)
  have hto0 := Int.emod_nonneg (w * n + x) (show sW n D q ≠ 0 by omega)
  have hto1 := Int.emod_lt_of_pos (w * n + x) (show 0 < sW n D q by omega)
  have hwi := dv_in (W := n) (n := sW n D q) (t := x) (y := w) hx.1 hx.2 hw.1 hw.2
  have hws : q + 1 ≤ D → sW n D (q + 1) = n * sW n D q := fun g => by rw [sW_succ (by omega) (by omega), Int.mul_comm]
  have hwm : w * n + n ≤ 256 * 4 := by
    have h1 : (w + 1) * n ≤ 256 * n := Int.mul_le_mul_of_nonneg_right (by omega) (by omega)
    rw [Int.add_mul, Int.one_mul] at h1
    omega
  have hlw := hlf.1 w hw.1 hw.2
  have hlt := hlf.1 ((w * n + x) % sW n D q) hto0 hto1
  have h01w := hlf.2 w
  have h01t := hlf.2 ((w * n + x) % sW n D q)
  refine wp_run 5 (pc' := 9) (ls' := [some (.inr (.inr (r_Md, 0))), some (.inl w), some (.inl x), none, none]) (st' := [.inl (σ r_Md_live 0), .inr (.inr (r_Md_letters, 0)), .inl w]) (σ' := srl σ []) rfl ?_
  refine wp_iald0 rfl rfl (by omega) ?_
  show en_wp k_X12_onFrom 10 [some (.inr (.inr (r_Md, 0))), some (.inl w), some (.inl x), none, none] [.inl (σ r_Md_letters (σ r_Md_live 0)), .inl w] (srl σ []) _
  rw [hn]
  show en_wp k_X12_onFrom 10 [some (.inr (.inr (r_Md, 0))), some (.inl w), some (.inl x), none, none] [.inl n, .inl w] (srl σ []) _
  refine wp_run 8 (pc' := 20) (ls' := [some (.inr (.inr (r_Md, 0))), some (.inl w), some (.inl x), some (.inl ((w * n) + x)), none]) (st' := [.inl (σ r_Md_placeLetters 0), .inr (.inr (r_Md, 0)), .inl ((w * n) + x)]) (σ' := srl σ []) rfl ?_
  refine wp_fnv (v := .inl (sW n D (σ r_Md_placeLetters 0))) rfl rfl rfl rfl (ct_X12_wide σ n D p (σ r_Md_placeLetters 0) hI (by omega)) ?_
  show en_wp k_X12_onFrom 23 [some (.inr (.inr (r_Md, 0))), some (.inl w), some (.inl x), some (.inl ((w * n) + x)), none] [.inl (sW n D (σ r_Md_placeLetters 0)), .inl ((w * n) + x)] (srl σ []) _
  rw [hq.1]
  show en_wp k_X12_onFrom 23 [some (.inr (.inr (r_Md, 0))), some (.inl w), some (.inl x), some (.inl ((w * n) + x)), none] [.inl (sW n D q), .inl ((w * n) + x)] (srl σ []) _
  have q_1 : 0 ≤ sW n D (σ r_Md_placeLetters 0) ∧ sW n D (σ r_Md_placeLetters 0) ≤ 256 := sW_b hO
  refine wp_iremp rfl (by omega) (by omega) ?_
  show en_wp k_X12_onFrom 24 [some (.inr (.inr (r_Md, 0))), some (.inl w), some (.inl x), some (.inl ((w * n) + x)), none] [.inl (((w * n) + x) % (sW n D q))] (srl σ []) _
  refine wp_run 4 (pc' := 31) (ls' := [some (.inr (.inr (r_Md, 0))), some (.inl w), some (.inl x), some (.inl ((w * n) + x)), some (.inl (((w * n) + x) % (sW n D q)))]) (st' := [.inl w, .inr (.inr (r_Md_isLeft, 0))]) (σ' := srl σ []) rfl ?_
  refine wp_bald0 rfl (.inr rfl) (by omega) ?_
  show en_wp k_X12_onFrom 32 [some (.inr (.inr (r_Md, 0))), some (.inl w), some (.inl x), some (.inl ((w * n) + x)), some (.inl (((w * n) + x) % (sW n D q)))] [.inl (σ r_Md_isLeft w)] (srl σ []) _
  refine wp_if_eq rfl (by omega) (fun h_2 => ?_) (fun h_2 => ?_)
  · have hA := bI_z (hlw.symm.trans h_2)
    show en_wp k_X12_onFrom 45 [some (.inr (.inr (r_Md, 0))), some (.inl w), some (.inl x), some (.inl ((w * n) + x)), some (.inl (((w * n) + x) % (sW n D q)))] [] (srl σ []) _
    refine wp_run 1 (pc' := 46) (ls' := [some (.inr (.inr (r_Md, 0))), some (.inl w), some (.inl x), some (.inl ((w * n) + x)), some (.inl (((w * n) + x) % (sW n D q)))]) (st' := [.inl (-1)]) (σ' := srl σ []) rfl ?_
    exact wp_iret rfl ⟨(by unfold stp; first | rw [if_pos (by omega)] | rw [if_neg (by omega)]), rfl⟩
  · have hA := bI_nz (fun q => h_2 (hlw.trans q))
    show en_wp k_X12_onFrom 35 [some (.inr (.inr (r_Md, 0))), some (.inl w), some (.inl x), some (.inl ((w * n) + x)), some (.inl (((w * n) + x) % (sW n D q)))] [] (srl σ []) _
    refine wp_run 3 (pc' := 41) (ls' := [some (.inr (.inr (r_Md, 0))), some (.inl w), some (.inl x), some (.inl ((w * n) + x)), some (.inl (((w * n) + x) % (sW n D q)))]) (st' := [.inl (((w * n) + x) % (sW n D q)), .inr (.inr (r_Md_isLeft, 0))]) (σ' := srl σ []) rfl ?_
    refine wp_bald0 rfl (.inr rfl) (by omega) ?_
    show en_wp k_X12_onFrom 42 [some (.inr (.inr (r_Md, 0))), some (.inl w), some (.inl x), some (.inl ((w * n) + x)), some (.inl (((w * n) + x) % (sW n D q)))] [.inl (σ r_Md_isLeft (((w * n) + x) % (sW n D q)))] (srl σ []) _
    refine wp_if_ne rfl (by omega) (fun h_3 => ?_) (fun h_3 => ?_)
    · have hB := bI_nz (fun q => h_3 (hlt.trans q))
      show en_wp k_X12_onFrom 47 [some (.inr (.inr (r_Md, 0))), some (.inl w), some (.inl x), some (.inl ((w * n) + x)), some (.inl (((w * n) + x) % (sW n D q)))] [] (srl σ []) _
      refine wp_run 6 (pc' := 59) (ls' := [some (.inr (.inr (r_Md, 0))), some (.inl w), some (.inl x), some (.inl ((w * n) + x)), some (.inl (((w * n) + x) % (sW n D q)))]) (st' := [.inl (σ r_Md_live 0), .inr (.inr (r_Md_degree, 0)), .inl (σ r_Md_placeLetters 0)]) (σ' := srl σ []) rfl ?_
      refine wp_iald0 rfl rfl (by omega) ?_
      show en_wp k_X12_onFrom 60 [some (.inr (.inr (r_Md, 0))), some (.inl w), some (.inl x), some (.inl ((w * n) + x)), some (.inl (((w * n) + x) % (sW n D q)))] [.inl (σ r_Md_degree (σ r_Md_live 0)), .inl (σ r_Md_placeLetters 0)] (srl σ []) _
      rw [hD]
      show en_wp k_X12_onFrom 60 [some (.inr (.inr (r_Md, 0))), some (.inl w), some (.inl x), some (.inl ((w * n) + x)), some (.inl (((w * n) + x) % (sW n D q)))] [.inl D, .inl (σ r_Md_placeLetters 0)] (srl σ []) _
      rw [hq.1]
      show en_wp k_X12_onFrom 60 [some (.inr (.inr (r_Md, 0))), some (.inl w), some (.inl x), some (.inl ((w * n) + x)), some (.inl (((w * n) + x) % (sW n D q)))] [.inl D, .inl q] (srl σ []) _
      refine wp_ic_ge rfl (by omega) (by omega) (fun h_4 => ?_) (fun h_4 => ?_)
      · show en_wp k_X12_onFrom 81 [some (.inr (.inr (r_Md, 0))), some (.inl w), some (.inl x), some (.inl ((w * n) + x)), some (.inl (((w * n) + x) % (sW n D q)))] [] (srl σ []) _
        refine wp_run 1 (pc' := 83) (ls' := [some (.inr (.inr (r_Md, 0))), some (.inl w), some (.inl x), some (.inl ((w * n) + x)), some (.inl (((w * n) + x) % (sW n D q)))]) (st' := [.inl (((w * n) + x) % (sW n D q))]) (σ' := srl σ []) rfl ?_
        exact wp_iret rfl ⟨(by unfold stp; first | rw [if_pos (by omega)] | rw [if_neg (by omega)]), rfl⟩
      · show en_wp k_X12_onFrom 63 [some (.inr (.inr (r_Md, 0))), some (.inl w), some (.inl x), some (.inl ((w * n) + x)), some (.inl (((w * n) + x) % (sW n D q)))] [] (srl σ []) _
        refine wp_run 6 (pc' := 71) (ls' := [some (.inr (.inr (r_Md, 0))), some (.inl w), some (.inl x), some (.inl ((w * n) + x)), some (.inl (((w * n) + x) % (sW n D q)))]) (st' := [.inl ((w * n) + x), .inl ((σ r_Md_placeLetters 0) + 1), .inr (.inr (r_Md, 0))]) (σ' := srl σ []) rfl ?_
        have hqe : sW n D (σ r_Md_placeLetters 0 + 1) = sW n D (q + 1) := by rw [hq.1]
        have hwi2 : w * n + x < sW n D (q + 1) := by rw [hws (by omega)]; exact hwi.2
        refine wp_fnv (v := .inl (bI ((σ r_Md_leads) (sS n D ((σ r_Md_placeLetters 0) + 1) + ((w * n) + x)) = 0))) rfl rfl rfl rfl (ct_X12_isNormal σ n D p ((σ r_Md_placeLetters 0) + 1) ((w * n) + x) hI (by omega) (by omega) hlead) ?_
        show en_wp k_X12_onFrom 74 [some (.inr (.inr (r_Md, 0))), some (.inl w), some (.inl x), some (.inl ((w * n) + x)), some (.inl (((w * n) + x) % (sW n D q)))] [.inl (bI ((σ r_Md_leads) (sS n D ((σ r_Md_placeLetters 0) + 1) + ((w * n) + x)) = 0))] (srl σ []) _
        rw [hq.1]
        show en_wp k_X12_onFrom 74 [some (.inr (.inr (r_Md, 0))), some (.inl w), some (.inl x), some (.inl ((w * n) + x)), some (.inl (((w * n) + x) % (sW n D q)))] [.inl (bI ((σ r_Md_leads) (sS n D (q + 1) + ((w * n) + x)) = 0))] (srl σ []) _
        refine wp_if_neb rfl (fun h_5 => ?_) (fun h_5 => ?_)
        · show en_wp k_X12_onFrom 81 [some (.inr (.inr (r_Md, 0))), some (.inl w), some (.inl x), some (.inl ((w * n) + x)), some (.inl (((w * n) + x) % (sW n D q)))] [] (srl σ []) _
          refine wp_run 1 (pc' := 83) (ls' := [some (.inr (.inr (r_Md, 0))), some (.inl w), some (.inl x), some (.inl ((w * n) + x)), some (.inl (((w * n) + x) % (sW n D q)))]) (st' := [.inl (((w * n) + x) % (sW n D q))]) (σ' := srl σ []) rfl ?_
          exact wp_iret rfl ⟨(by unfold stp; first | rw [if_pos (by omega)] | rw [if_neg (by omega)]), rfl⟩
        · show en_wp k_X12_onFrom 77 [some (.inr (.inr (r_Md, 0))), some (.inl w), some (.inl x), some (.inl ((w * n) + x)), some (.inl (((w * n) + x) % (sW n D q)))] [] (srl σ []) _
          refine wp_run 2 (pc' := 83) (ls' := [some (.inr (.inr (r_Md, 0))), some (.inl w), some (.inl x), some (.inl ((w * n) + x)), some (.inl (((w * n) + x) % (sW n D q)))]) (st' := [.inl (-1)]) (σ' := srl σ []) rfl ?_
          exact wp_iret rfl ⟨(by unfold stp; first | rw [if_pos (by omega)] | rw [if_neg (by omega)]), rfl⟩
    · have hB := bI_z (hlt.symm.trans h_3)
      show en_wp k_X12_onFrom 45 [some (.inr (.inr (r_Md, 0))), some (.inl w), some (.inl x), some (.inl ((w * n) + x)), some (.inl (((w * n) + x) % (sW n D q)))] [] (srl σ []) _
      refine wp_run 1 (pc' := 46) (ls' := [some (.inr (.inr (r_Md, 0))), some (.inl w), some (.inl x), some (.inl ((w * n) + x)), some (.inl (((w * n) + x) % (sW n D q)))]) (st' := [.inl (-1)]) (σ' := srl σ []) rfl ?_
      exact wp_iret rfl ⟨(by unfold stp; first | rw [if_pos (by omega)] | rw [if_neg (by omega)]), rfl⟩
