/-! contracts of methods, walked (written by wip/whole/walk.py from the annotations ann_m27) -/
theorem ct_X1_addUpTo (σ : en_m) (a : Int) (b : Int) (ha : 0 ≤ a ∧ a ≤ 9223372036854775807) (hb : 0 ≤ b ∧ b ≤ 9223372036854775807) : en_fn z_X1_addUpTo [.inr (.inl a), .inr (.inl b)] σ (.inr (.inl (sat a b))) := by
  show en_wp k_X1_addUpTo 0 [some (.inr (.inl a)), none, some (.inr (.inl b)), none] [] (srl σ []) (fun r σ' => r = some (.inr (.inl (sat a b))) ∧ σ' = σ)
  refine wp_run 4 (pc' := 6) (ls' := [some (.inr (.inl a)), none, some (.inr (.inl b)), none]) (st' := [.inr (.inl (9223372036854775807 - b)), .inr (.inl a)]) (σ' := srl σ []) rfl ?_
  refine wp_lc_le rfl (by omega) (by omega) rfl (fun h_1 => ?_) (fun h_1 => ?_)
  · show en_wp k_X1_addUpTo 16 [some (.inr (.inl a)), none, some (.inr (.inl b)), none] [] (srl σ []) _
    refine wp_run 3 (pc' := 19) (ls' := [some (.inr (.inl a)), none, some (.inr (.inl b)), none]) (st' := [.inr (.inl (a + b))]) (σ' := srl σ []) rfl ?_
    exact wp_lret rfl ⟨(by unfold sat; first | rw [if_pos (by omega)] | rw [if_neg (by omega)]), rfl⟩
  · show en_wp k_X1_addUpTo 10 [some (.inr (.inl a)), none, some (.inr (.inl b)), none] [] (srl σ []) _
    refine wp_run 2 (pc' := 19) (ls' := [some (.inr (.inl a)), none, some (.inr (.inl b)), none]) (st' := [.inr (.inl 9223372036854775807)]) (σ' := srl σ []) rfl ?_
    exact wp_lret rfl ⟨(by unfold sat; first | rw [if_pos (by omega)] | rw [if_neg (by omega)]), rfl⟩
theorem ct_X1_placeLetters (σ : en_m) (n : Int) (D : Int) (p : Int) (L : Int → Int) (hI : cS0 σ n D p) (g01 : R01 ((σ r_Nought0_leading))) (hLL : ∀ x, 0 ≤ x → x < sS n D (D + 1) → (σ r_Nought0_leading) x = L x) : en_ct z_X1_placeLetters [.inr (.inr (r_Machine, 0))] σ (fun r σ' => ∃ (rr : Int), r = some (.inl rr) ∧ σ' = srl σ [] ∧ (isPL L n D rr)) := by
  show en_wp k_X1_placeLetters 0 [some (.inr (.inr (r_Machine, 0))), none] [] (srl σ []) (fun r σ' => ∃ (rr : Int), r = some (.inl rr) ∧ σ' = srl σ [] ∧ (isPL L n D rr))
  have hI2 := hI
  obtain ⟨hO, hn, hD, hp, hm, hst, hln⟩ := hI2
  obtain ⟨⟨hO1, hO2⟩, ⟨hO3, hO4⟩, hO5, hO6, hO7, hO8⟩ := id hO
  have L_8 : ∀ (N : Nat) (d : Int), (0 ≤ d ∧ d ≤ D) → (∀ e, d < e → e ≤ D → 3 ≤ e → cB L n D e = 0) → (d).toNat < N → en_wp k_X1_placeLetters 8 [some (.inr (.inr (r_Machine, 0))), some (.inl d)] [] (srl σ []) (fun r σ' => ∃ (rr : Int), r = some (.inl rr) ∧ σ' = srl σ [] ∧ (isPL L n D rr)) := by
    intro N
    induction N with
    | zero => intro d; intros; omega
    | succ N ih_8 =>
      intro d hd hz hN_8
      refine wp_run 2 (pc' := 10) (ls' := [some (.inr (.inr (r_Machine, 0))), some (.inl d)]) (st' := [.inl 2, .inl d]) (σ' := srl σ []) rfl ?_
      refine wp_ic_le rfl (by omega) (by omega) (fun h_1 => ?_) (fun h_1 => ?_)
      · show en_wp k_X1_placeLetters 34 [some (.inr (.inr (r_Machine, 0))), some (.inl d)] [] (srl σ []) _
        refine wp_run 1 (pc' := 35) (ls' := [some (.inr (.inr (r_Machine, 0))), some (.inl d)]) (st' := [.inl 1]) (σ' := srl σ []) rfl ?_
        exact wp_iret rfl ⟨1, rfl, srl_eq (l' := []) trivial trivial, (.inl ⟨rfl, fun e a b => hz e (by omega) b a⟩)⟩
      · show en_wp k_X1_placeLetters 13 [some (.inr (.inr (r_Machine, 0))), some (.inl d)] [] (srl σ []) _
        refine wp_run 3 (pc' := 18) (ls' := [some (.inr (.inr (r_Machine, 0))), some (.inl d)]) (st' := [.inl d, .inr (.inr (r_Nought0, 0))]) (σ' := srl σ []) rfl ?_
        refine wp_fnv (v := .inl (cB L n D d)) rfl rfl rfl rfl (ct_X3_basisOf_Nought0 σ n D p L _ d hI g01 hLL (Int.le_refl _) (by omega) (by omega)) ?_
        show en_wp k_X1_placeLetters 21 [some (.inr (.inr (r_Machine, 0))), some (.inl d)] [.inl (cB L n D d)] (srl σ []) _
        have q_2 : 0 ≤ cB L n D d ∧ cB L n D d ≤ 256 := cB_b _ hO
        refine wp_if_le rfl (by omega) (fun h_3 => ?_) (fun h_3 => ?_)
        · show en_wp k_X1_placeLetters 28 [some (.inr (.inr (r_Machine, 0))), some (.inl d)] [] (srl σ []) _
          refine wp_run 2 (pc' := 8) (ls' := [some (.inr (.inr (r_Machine, 0))), some (.inl (d + (-1)))]) (st' := []) (σ' := srl σ []) rfl ?_
          exact ih_8 (d + (-1)) (by omega) (fun e a b c => by rcases Int.lt_or_eq_of_le (show d ≤ e by omega) with h5 | h5 <;> first | exact hz e h5 b c | (rw [← h5]; omega)) (by omega)
        · show en_wp k_X1_placeLetters 24 [some (.inr (.inr (r_Machine, 0))), some (.inl d)] [] (srl σ []) _
          refine wp_run 3 (pc' := 27) (ls' := [some (.inr (.inr (r_Machine, 0))), some (.inl d)]) (st' := [.inl (d - 1)]) (σ' := srl σ []) rfl ?_
          exact wp_iret rfl ⟨(d - 1), rfl, srl_eq (l' := []) trivial trivial, (.inr ⟨d, by omega, by omega, fun e a b => hz e a b (by omega), rfl⟩)⟩
  refine wp_run 2 (pc' := 4) (ls' := [some (.inr (.inr (r_Machine, 0))), none]) (st' := [.inr (.inr (r_Shape0, 0))]) (σ' := srl σ []) rfl ?_
  refine wp_fnv (v := .inl D) rfl rfl rfl rfl (ct_X5_longest_Shape0 σ n D p hI) ?_
  show en_wp k_X1_placeLetters 7 [some (.inr (.inr (r_Machine, 0))), none] [.inl D] (srl σ []) _
  refine wp_run 1 (pc' := 8) (ls' := [some (.inr (.inr (r_Machine, 0))), some (.inl D)]) (st' := []) (σ' := srl σ []) rfl ?_
  exact L_8 _ D (by omega) (fun e a b => by omega) (Nat.lt_succ_self _)
theorem ct_X1_step (σ : en_m) (n : Int) (D : Int) (p : Int) (L : Int → Int) (q : Int) (w : Int) (x : Int) (hI : cS0 σ n D p) (hq : (1 ≤ q ∧ q ≤ D) ∧ (q = 1 ∨ q + 1 ≤ D)) (hw : 0 ≤ w ∧ w < sW n D q) (hx : 0 ≤ x ∧ x < n) (g01 : R01 ((σ r_Nought0_leading))) (hLL : ∀ x, 0 ≤ x → x < sS n D (D + 1) → (σ r_Nought0_leading) x = L x) : en_fn z_X1_step [.inr (.inr (r_Machine, 0)), .inl q, .inl w, .inl x] σ (.inl (stp L n D q w x)) := by
  show en_wp k_X1_step 0 [some (.inr (.inr (r_Machine, 0))), some (.inl q), some (.inl w), some (.inl x), none, none, none] [] (srl σ []) (fun r σ' => r = some (.inl (stp L n D q w x)) ∧ σ' = σ)
  have hI2 := hI
  obtain ⟨hO, hn, hD, hp, hm, hst, hln⟩ := hI2
  obtain ⟨⟨hO1, hO2⟩, ⟨hO3, hO4⟩, hO5, hO6, hO7, hO8⟩ := id hO
  have hWq := sW_b (k := q) hO
  have hs1 : sW n D 1 = n := by rw [sW_in (by omega) (by omega)]; exact Int.pow_one n
  have h81 := sW_81 hO hq.2
  have hwn := Int.mul_nonneg hw.1 (show 0 ≤ n by omega)
  have hto0 := Int.emod_nonneg (w * n + x) (show sW n D q ≠ 0 by omega)
  have hto1 := Int.emod_lt_of_pos (w * n + x) (show 0 < sW n D q by omega)
  have hwi := dv_in (W := n) (n := sW n D q) (t := x) (y := w) hx.1 hx.2 hw.1 hw.2
  have hws : q + 1 ≤ D → sW n D (q + 1) = n * sW n D q := fun g => by rw [sW_succ (by omega) (by omega), Int.mul_comm]
  have hwb : ¬ q + 1 ≤ D → sW n D (q + 1) = 0 := fun g => sW_big (by omega)
  have hwm : w * n + n ≤ 256 * 4 := by
    have h1 : (w + 1) * n ≤ 256 * n := Int.mul_le_mul_of_nonneg_right (by omega) (by omega)
    rw [Int.add_mul, Int.one_mul] at h1
    omega
  have hwi2 : q + 1 ≤ D → w * n + x < sW n D (q + 1) := fun g => by rw [hws g]; exact hwi.2
  refine wp_run 5 (pc' := 7) (ls' := [some (.inr (.inr (r_Machine, 0))), some (.inl q), some (.inl w), some (.inl x), none, none, none]) (st' := [.inl 1, .inl x, .inl w, .inr (.inr (r_Shape0, 0))]) (σ' := srl σ []) rfl ?_
  refine wp_fnv (v := .inl (w * sW n D 1 + x)) rfl rfl rfl rfl (ct_X5_join_Shape0 σ n D p w x 1 hI (by omega)) ?_
  show en_wp k_X1_step 10 [some (.inr (.inr (r_Machine, 0))), some (.inl q), some (.inl w), some (.inl x), none, none, none] [.inl (w * sW n D 1 + x)] (srl σ []) _
  rw [hs1]
  show en_wp k_X1_step 10 [some (.inr (.inr (r_Machine, 0))), some (.inl q), some (.inl w), some (.inl x), none, none, none] [.inl (w * n + x)] (srl σ []) _
  refine wp_run 5 (pc' := 19) (ls' := [some (.inr (.inr (r_Machine, 0))), some (.inl q), some (.inl w), some (.inl x), some (.inl (w * n + x)), none, none]) (st' := [.inl q, .inl (w * n + x), .inr (.inr (r_Shape0, 0))]) (σ' := srl σ []) rfl ?_
  refine wp_fnv (v := .inl ((w * n + x) % sW n D q)) rfl rfl rfl rfl (ct_X5_tailOf_Shape0_p σ n D p (w * n + x) q hI (by omega) (by omega) (by omega)) ?_
  show en_wp k_X1_step 22 [some (.inr (.inr (r_Machine, 0))), some (.inl q), some (.inl w), some (.inl x), some (.inl (w * n + x)), none, none] [.inl ((w * n + x) % sW n D q)] (srl σ []) _
  have q_1 : 0 ≤ (w * n + x) % sW n D q ∧ (w * n + x) % sW n D q < sW n D q := ⟨Int.emod_nonneg _ (by omega), Int.emod_lt_of_pos _ (by omega)⟩
  refine wp_run 5 (pc' := 30) (ls' := [some (.inr (.inr (r_Machine, 0))), some (.inl q), some (.inl w), some (.inl x), some (.inl (w * n + x)), some (.inl ((w * n + x) % sW n D q)), none]) (st' := [.inl w, .inl q, .inr (.inr (r_Nought0, 0))]) (σ' := srl σ []) rfl ?_
  refine wp_fnv (v := .inl (bI ((0 ≤ w ∧ w < sW n D q) ∧ ¬ L (sS n D q + w) = 0))) rfl rfl rfl rfl (ct_X3_isLeading_Nought0_L σ n D p L _ q w hI (by omega) (by omega) g01 hLL (by omega)) ?_
  show en_wp k_X1_step 33 [some (.inr (.inr (r_Machine, 0))), some (.inl q), some (.inl w), some (.inl x), some (.inl (w * n + x)), some (.inl ((w * n + x) % sW n D q)), none] [.inl (bI ((0 ≤ w ∧ w < sW n D q) ∧ ¬ L (sS n D q + w) = 0))] (srl σ []) _
  refine wp_if_neb rfl (fun h_2 => ?_) (fun h_2 => ?_)
  · show en_wp k_X1_step 68 [some (.inr (.inr (r_Machine, 0))), some (.inl q), some (.inl w), some (.inl x), some (.inl (w * n + x)), some (.inl ((w * n + x) % sW n D q)), none] [] (srl σ []) _
    refine wp_run 5 (pc' := 89) (ls' := [some (.inr (.inr (r_Machine, 0))), some (.inl q), some (.inl w), some (.inl x), some (.inl (w * n + x)), some (.inl ((w * n + x) % sW n D q)), some (.inl 0)]) (st' := [.inl (-1)]) (σ' := srl σ []) rfl ?_
    exact wp_iret rfl ⟨(by unfold stp; first | rw [if_pos (by omega)] | rw [if_neg (by omega)]), rfl⟩
  · show en_wp k_X1_step 36 [some (.inr (.inr (r_Machine, 0))), some (.inl q), some (.inl w), some (.inl x), some (.inl (w * n + x)), some (.inl ((w * n + x) % sW n D q)), none] [] (srl σ []) _
    refine wp_run 4 (pc' := 43) (ls' := [some (.inr (.inr (r_Machine, 0))), some (.inl q), some (.inl w), some (.inl x), some (.inl (w * n + x)), some (.inl ((w * n + x) % sW n D q)), none]) (st' := [.inl ((w * n + x) % sW n D q), .inl q, .inr (.inr (r_Nought0, 0))]) (σ' := srl σ []) rfl ?_
    refine wp_fnv (v := .inl (bI ((0 ≤ ((w * n + x) % sW n D q) ∧ ((w * n + x) % sW n D q) < sW n D q) ∧ ¬ L (sS n D q + ((w * n + x) % sW n D q)) = 0))) rfl rfl rfl rfl (ct_X3_isLeading_Nought0_L σ n D p L _ q ((w * n + x) % sW n D q) hI (by omega) (by omega) g01 hLL (by omega)) ?_
    show en_wp k_X1_step 46 [some (.inr (.inr (r_Machine, 0))), some (.inl q), some (.inl w), some (.inl x), some (.inl (w * n + x)), some (.inl ((w * n + x) % sW n D q)), none] [.inl (bI ((0 ≤ ((w * n + x) % sW n D q) ∧ ((w * n + x) % sW n D q) < sW n D q) ∧ ¬ L (sS n D q + ((w * n + x) % sW n D q)) = 0))] (srl σ []) _
    refine wp_if_neb rfl (fun h_3 => ?_) (fun h_3 => ?_)
    · show en_wp k_X1_step 68 [some (.inr (.inr (r_Machine, 0))), some (.inl q), some (.inl w), some (.inl x), some (.inl (w * n + x)), some (.inl ((w * n + x) % sW n D q)), none] [] (srl σ []) _
      refine wp_run 5 (pc' := 89) (ls' := [some (.inr (.inr (r_Machine, 0))), some (.inl q), some (.inl w), some (.inl x), some (.inl (w * n + x)), some (.inl ((w * n + x) % sW n D q)), some (.inl 0)]) (st' := [.inl (-1)]) (σ' := srl σ []) rfl ?_
      exact wp_iret rfl ⟨(by unfold stp; first | rw [if_pos (by omega)] | rw [if_neg (by omega)]), rfl⟩
    · show en_wp k_X1_step 49 [some (.inr (.inr (r_Machine, 0))), some (.inl q), some (.inl w), some (.inl x), some (.inl (w * n + x)), some (.inl ((w * n + x) % sW n D q)), none] [] (srl σ []) _
      refine wp_run 6 (pc' := 58) (ls' := [some (.inr (.inr (r_Machine, 0))), some (.inl q), some (.inl w), some (.inl x), some (.inl (w * n + x)), some (.inl ((w * n + x) % sW n D q)), none]) (st' := [.inl (w * n + x), .inl (q + 1), .inr (.inr (r_Nought0, 0))]) (σ' := srl σ []) rfl ?_
      refine wp_fnv (v := .inl (bI ((0 ≤ (w * n + x) ∧ (w * n + x) < sW n D (q + 1)) ∧ ¬ L (sS n D (q + 1) + (w * n + x)) = 0))) rfl rfl rfl rfl (ct_X3_isLeading_Nought0_L σ n D p L _ (q + 1) (w * n + x) hI (by omega) (by omega) g01 hLL (by omega)) ?_
      show en_wp k_X1_step 61 [some (.inr (.inr (r_Machine, 0))), some (.inl q), some (.inl w), some (.inl x), some (.inl (w * n + x)), some (.inl ((w * n + x) % sW n D q)), none] [.inl (bI ((0 ≤ (w * n + x) ∧ (w * n + x) < sW n D (q + 1)) ∧ ¬ L (sS n D (q + 1) + (w * n + x)) = 0))] (srl σ []) _
      refine wp_if_neb rfl (fun h_4 => ?_) (fun h_4 => ?_)
      · show en_wp k_X1_step 68 [some (.inr (.inr (r_Machine, 0))), some (.inl q), some (.inl w), some (.inl x), some (.inl (w * n + x)), some (.inl ((w * n + x) % sW n D q)), none] [] (srl σ []) _
        refine wp_run 5 (pc' := 89) (ls' := [some (.inr (.inr (r_Machine, 0))), some (.inl q), some (.inl w), some (.inl x), some (.inl (w * n + x)), some (.inl ((w * n + x) % sW n D q)), some (.inl 0)]) (st' := [.inl (-1)]) (σ' := srl σ []) rfl ?_
        exact wp_iret rfl ⟨(by unfold stp; first | rw [if_pos (by omega)] | rw [if_neg (by omega)]), rfl⟩
      · show en_wp k_X1_step 64 [some (.inr (.inr (r_Machine, 0))), some (.inl q), some (.inl w), some (.inl x), some (.inl (w * n + x)), some (.inl ((w * n + x) % sW n D q)), none] [] (srl σ []) _
        refine wp_run 7 (pc' := 80) (ls' := [some (.inr (.inr (r_Machine, 0))), some (.inl q), some (.inl w), some (.inl x), some (.inl (w * n + x)), some (.inl ((w * n + x) % sW n D q)), some (.inl 1)]) (st' := [.inl 81, .inl ((w * n + x) % sW n D q)]) (σ' := srl σ []) rfl ?_
        refine wp_ic_ge rfl (by omega) (by omega) (fun h_5 => ?_) (fun h_5 => ?_)
        · exfalso; omega
        · show en_wp k_X1_step 83 [some (.inr (.inr (r_Machine, 0))), some (.inl q), some (.inl w), some (.inl x), some (.inl (w * n + x)), some (.inl ((w * n + x) % sW n D q)), some (.inl 1)] [] (srl σ []) _
          refine wp_run 2 (pc' := 89) (ls' := [some (.inr (.inr (r_Machine, 0))), some (.inl q), some (.inl w), some (.inl x), some (.inl (w * n + x)), some (.inl ((w * n + x) % sW n D q)), some (.inl 1)]) (st' := [.inl ((w * n + x) % sW n D q)]) (σ' := srl σ []) rfl ?_
          exact wp_iret rfl ⟨(by unfold stp; first | rw [if_pos (by omega)] | rw [if_neg (by omega)]), rfl⟩
