/-! contracts of methods, walked (written by wip/whole/walk.py from the annotations ann_m28) -/
theorem ct_J7_fill_d0a16_Machine_waysA (σ : en_m) (o : Int) (v : Int) : en_ct z_J7_fill_d0a16 [.inr (.inr (r_Machine_waysA, o)), .inr (.inl v)] σ (fun r σ' => r = none ∧ σ' = srl σ [(r_Machine_waysA, (seg (σ r_Machine_waysA) o 81 (fun _ => v)))]) := by
  show en_wp k_J7_fill_d0a16 0 [some (.inr (.inr (r_Machine_waysA, o))), some (.inr (.inl v)), none, none, none] [] (srl σ []) (fun r σ' => r = none ∧ σ' = srl σ [(r_Machine_waysA, (seg (σ r_Machine_waysA) o 81 (fun _ => v)))])
  have L_6 : ∀ (N : Nat) (k : Int) (X : Int → Int), (0 ≤ k ∧ k ≤ 81) → (X = seg (σ r_Machine_waysA) o k (fun _ => v)) → (81 - k).toNat < N → en_wp k_J7_fill_d0a16 6 [some (.inr (.inr (r_Machine_waysA, o))), some (.inr (.inl v)), none, some (.inl k), some (.inl 81)] [] (srl σ [(r_Machine_waysA, X)]) (fun r σ' => r = none ∧ σ' = srl σ [(r_Machine_waysA, (seg (σ r_Machine_waysA) o 81 (fun _ => v)))]) := by
    intro N
    induction N with
    | zero => intro k X; intros; omega
    | succ N ih_6 =>
      intro k X hk hX hN_6
      refine wp_run 2 (pc' := 9) (ls' := [some (.inr (.inr (r_Machine_waysA, o))), some (.inr (.inl v)), none, some (.inl k), some (.inl 81)]) (st' := [.inl 81, .inl k]) (σ' := srl σ [(r_Machine_waysA, X)]) rfl ?_
      refine wp_ic_ge rfl (by omega) (by omega) (fun h_1 => ?_) (fun h_1 => ?_)
      · show en_wp k_J7_fill_d0a16 22 [some (.inr (.inr (r_Machine_waysA, o))), some (.inr (.inl v)), none, some (.inl k), some (.inl 81)] [] (srl σ [(r_Machine_waysA, X)]) _
        exact wp_vret rfl ⟨rfl, (by rw [hX, show k = 81 by omega])⟩
      · show en_wp k_J7_fill_d0a16 12 [some (.inr (.inr (r_Machine_waysA, o))), some (.inr (.inl v)), none, some (.inl k), some (.inl 81)] [] (srl σ [(r_Machine_waysA, X)]) _
        refine wp_run 3 (pc' := 15) (ls' := [some (.inr (.inr (r_Machine_waysA, o))), some (.inr (.inl v)), none, some (.inl k), some (.inl 81)]) (st' := [.inr (.inl v), .inl k, .inr (.inr (r_Machine_waysA, o))]) (σ' := srl σ [(r_Machine_waysA, X)]) rfl ?_
        refine wp_last rfl rfl (by omega) (wp_wr (l2 := [(r_Machine_waysA, (up X (o + k) v))]) rfl ?_)
        show en_wp k_J7_fill_d0a16 16 [some (.inr (.inr (r_Machine_waysA, o))), some (.inr (.inl v)), none, some (.inl k), some (.inl 81)] [] (srl σ [(r_Machine_waysA, (up X (o + k) v))]) _
        refine wp_run 2 (pc' := 6) (ls' := [some (.inr (.inr (r_Machine_waysA, o))), some (.inr (.inl v)), none, some (.inl (k + 1)), some (.inl 81)]) (st' := []) (σ' := srl σ [(r_Machine_waysA, (up X (o + k) v))]) rfl ?_
        exact ih_6 (k + 1) (up X (o + k) v) (by omega) (by rw [hX]; exact seg_up hk.1 rfl) (by omega)
  refine wp_run 5 (pc' := 6) (ls' := [some (.inr (.inr (r_Machine_waysA, o))), some (.inr (.inl v)), none, some (.inl 0), some (.inl 81)]) (st' := []) (σ' := srl σ []) rfl ?_
  refine wp_mem (srl_eq (l' := [(r_Machine_waysA, (σ r_Machine_waysA))]) trivial (And.intro rfl trivial)) ?_
  exact L_6 _ 0 (σ r_Machine_waysA) (by omega) (seg_0 _ _ _).symm (Nat.lt_succ_self _)
theorem ct_X1_goOneLetter (σ : en_m) (n : Int) (D : Int) (p : Int) (L : Int → Int) (F : Int → Int) (q : Int) (m : Int) (hI : cS0 σ n D p) (hq : (1 ≤ q ∧ q ≤ D) ∧ (q = 1 ∨ q + 1 ≤ D)) (hm : m = sW n D q) (hab : ((σ r_Machine_ways) 0 = 0 ∧ (σ r_Machine_waysNext) 0 = 81) ∨ ((σ r_Machine_ways) 0 = 81 ∧ (σ r_Machine_waysNext) 0 = 0)) (hF : (∀ t, inL (F t)) ∧ ∀ t, 0 ≤ t → t < sW n D q → (σ r_Machine_waysA) ((σ r_Machine_ways) 0 + t) = F t) (g01 : R01 ((σ r_Nought0_leading))) (hLL : ∀ x, 0 ≤ x → x < sS n D (D + 1) → (σ r_Nought0_leading) x = L x) : en_ct z_X1_goOneLetter [.inr (.inr (r_Machine, 0)), .inl q, .inl m] σ (fun r σ' => ∃ (f_Machine_waysA : Int → Int), ∃ (v_Machine_ways : Int → Int), ∃ (v_Machine_waysNext : Int → Int), r = none ∧ σ' = srl σ [(r_Machine_waysA, f_Machine_waysA), (r_Machine_ways, v_Machine_ways), (r_Machine_waysNext, v_Machine_waysNext)] ∧ ((v_Machine_ways 0) = (σ r_Machine_waysNext) 0 ∧ (v_Machine_waysNext 0) = (σ r_Machine_ways) 0) ∧ (∀ t, 0 ≤ t → t < sW n D q → f_Machine_waysA ((σ r_Machine_waysNext) 0 + t) = gW L n D q F (sW n D q).toNat t)) := by
  show en_wp k_X1_goOneLetter 0 [some (.inr (.inr (r_Machine, 0))), some (.inl q), some (.inl m), none, none, none] [] (srl σ []) (fun r σ' => ∃ (f_Machine_waysA : Int → Int), ∃ (v_Machine_ways : Int → Int), ∃ (v_Machine_waysNext : Int → Int), r = none ∧ σ' = srl σ [(r_Machine_waysA, f_Machine_waysA), (r_Machine_ways, v_Machine_ways), (r_Machine_waysNext, v_Machine_waysNext)] ∧ ((v_Machine_ways 0) = (σ r_Machine_waysNext) 0 ∧ (v_Machine_waysNext 0) = (σ r_Machine_ways) 0) ∧ (∀ t, 0 ≤ t → t < sW n D q → f_Machine_waysA ((σ r_Machine_waysNext) 0 + t) = gW L n D q F (sW n D q).toNat t))
  have hI2 := hI
  obtain ⟨hO, hn, hD, hp, hm, hst, hln⟩ := hI2
  obtain ⟨⟨hO1, hO2⟩, ⟨hO3, hO4⟩, hO5, hO6, hO7, hO8⟩ := id hO
  have hWq := sW_b (k := q) hO
  have h81 := sW_81 hO hq.2
  have L_10 : ∀ (N : Nat) (w : Int) (X : Int → Int), (0 ≤ w ∧ w ≤ sW n D q) → (∀ t, 0 ≤ t → t < sW n D q → X (σ r_Machine_ways 0 + t) = F t) → (∀ t, 0 ≤ t → t < sW n D q → X (σ r_Machine_waysNext 0 + t) = gW L n D q F w.toNat t) → (sW n D q - w).toNat < N → en_wp k_X1_goOneLetter 10 [some (.inr (.inr (r_Machine, 0))), some (.inl q), some (.inl m), some (.inl w), none, none] [] (srl σ [(r_Machine_waysA, X)]) (fun r σ' => ∃ (f_Machine_waysA : Int → Int), ∃ (v_Machine_ways : Int → Int), ∃ (v_Machine_waysNext : Int → Int), r = none ∧ σ' = srl σ [(r_Machine_waysA, f_Machine_waysA), (r_Machine_ways, v_Machine_ways), (r_Machine_waysNext, v_Machine_waysNext)] ∧ ((v_Machine_ways 0) = (σ r_Machine_waysNext) 0 ∧ (v_Machine_waysNext 0) = (σ r_Machine_ways) 0) ∧ (∀ t, 0 ≤ t → t < sW n D q → f_Machine_waysA ((σ r_Machine_waysNext) 0 + t) = gW L n D q F (sW n D q).toNat t)) := by
    intro N
    induction N with
    | zero => intro w X; intros; omega
    | succ N ih_10 =>
      intro w X hw hX0 hG hN_10
      have L_18 : ∀ (N : Nat) (x : Int) (X : Int → Int), (0 ≤ w ∧ w < sW n D q) → (0 ≤ x ∧ x ≤ n) → (∀ t, 0 ≤ t → t < sW n D q → X (σ r_Machine_ways 0 + t) = F t) → (∀ t, 0 ≤ t → t < sW n D q → X (σ r_Machine_waysNext 0 + t) = gX L n D q F w (gW L n D q F w.toNat) x.toNat t) → (n - x).toNat < N → en_wp k_X1_goOneLetter 18 [some (.inr (.inr (r_Machine, 0))), some (.inl q), some (.inl m), some (.inl w), some (.inl x), none] [] (srl σ [(r_Machine_waysA, X)]) (fun r σ' => ∃ (f_Machine_waysA : Int → Int), ∃ (v_Machine_ways : Int → Int), ∃ (v_Machine_waysNext : Int → Int), r = none ∧ σ' = srl σ [(r_Machine_waysA, f_Machine_waysA), (r_Machine_ways, v_Machine_ways), (r_Machine_waysNext, v_Machine_waysNext)] ∧ ((v_Machine_ways 0) = (σ r_Machine_waysNext) 0 ∧ (v_Machine_waysNext 0) = (σ r_Machine_ways) 0) ∧ (∀ t, 0 ≤ t → t < sW n D q → f_Machine_waysA ((σ r_Machine_waysNext) 0 + t) = gW L n D q F (sW n D q).toNat t)) := by
        intro N
        induction N with
        | zero => intro x X; intros; omega
        | succ N ih_18 =>
          intro x X hww hx hX0 hG hN_18
          have hFb := hF.1 w
          have hGb : ∀ t, 0 ≤ t → t < sW n D q → inL (X (σ r_Machine_waysNext 0 + t)) := fun t h8 h9 => by rw [hG t h8 h9]; exact gX_b (hF.1 w) (gW_b hF.1 _) _ _
          refine wp_run 3 (pc' := 24) (ls' := [some (.inr (.inr (r_Machine, 0))), some (.inl q), some (.inl m), some (.inl w), some (.inl x), none]) (st' := [.inr (.inr (r_Shape0, 0)), .inl x]) (σ' := srl σ [(r_Machine_waysA, X)]) rfl ?_
          refine wp_fnv (v := .inl n) rfl rfl rfl rfl (ct_X5_lettersTold_Shape0 (srl σ [(r_Machine_waysA, X)]) n D p hI) ?_
          show en_wp k_X1_goOneLetter 27 [some (.inr (.inr (r_Machine, 0))), some (.inl q), some (.inl m), some (.inl w), some (.inl x), none] [.inl n, .inl x] (srl σ [(r_Machine_waysA, X)]) _
          refine wp_ic_ge rfl (by omega) (by omega) (fun h_1 => ?_) (fun h_1 => ?_)
          · show en_wp k_X1_goOneLetter 86 [some (.inr (.inr (r_Machine, 0))), some (.inl q), some (.inl m), some (.inl w), some (.inl x), none] [] (srl σ [(r_Machine_waysA, X)]) _
            refine wp_run 2 (pc' := 10) (ls' := [some (.inr (.inr (r_Machine, 0))), some (.inl q), some (.inl m), some (.inl (w + 1)), some (.inl x), none]) (st' := []) (σ' := srl σ [(r_Machine_waysA, X)]) rfl ?_
            refine wp_sub (l := [some (.inr (.inr (r_Machine, 0))), some (.inl q), some (.inl m), some (.inl (w + 1)), none, none]) (And.intro rfl (And.intro rfl (And.intro rfl (And.intro rfl trivial)))) ?_
            exact ih_10 (w + 1) X (by omega) hX0 (fun t h8 h9 => by rw [gW_s hww.1, ← show x.toNat = n.toNat by omega]; exact hG t h8 h9) (by omega)
          · show en_wp k_X1_goOneLetter 30 [some (.inr (.inr (r_Machine, 0))), some (.inl q), some (.inl m), some (.inl w), some (.inl x), none] [] (srl σ [(r_Machine_waysA, X)]) _
            refine wp_run 1 (pc' := 31) (ls' := [some (.inr (.inr (r_Machine, 0))), some (.inl q), some (.inl m), some (.inl w), some (.inl x), none]) (st' := [.inr (.inr (r_Machine, 0))]) (σ' := srl σ [(r_Machine_waysA, X)]) rfl ?_
            refine wp_get4 rfl rfl rfl rfl (show (σ r_Machine_ways 0) = 0 ∨ (σ r_Machine_ways 0) = ((81 : Nat) : Int) from (by omega)) ?_
            show en_wp k_X1_goOneLetter 34 [some (.inr (.inr (r_Machine, 0))), some (.inl q), some (.inl m), some (.inl w), some (.inl x), none] [.inr (.inr (r_Machine_waysA, (σ r_Machine_ways 0)))] (srl σ [(r_Machine_waysA, X)]) _
            refine wp_run 1 (pc' := 35) (ls' := [some (.inr (.inr (r_Machine, 0))), some (.inl q), some (.inl m), some (.inl w), some (.inl x), none]) (st' := [.inl w, .inr (.inr (r_Machine_waysA, (σ r_Machine_ways 0)))]) (σ' := srl σ [(r_Machine_waysA, X)]) rfl ?_
            refine wp_lald rfl rfl (by omega) ?_
            show en_wp k_X1_goOneLetter 36 [some (.inr (.inr (r_Machine, 0))), some (.inl q), some (.inl m), some (.inl w), some (.inl x), none] [.inr (.inl (X ((σ r_Machine_ways 0) + w)))] (srl σ [(r_Machine_waysA, X)]) _
            refine wp_run 1 (pc' := 37) (ls' := [some (.inr (.inr (r_Machine, 0))), some (.inl q), some (.inl m), some (.inl w), some (.inl x), none]) (st' := [.inr (.inl 0), .inr (.inl (X ((σ r_Machine_ways 0) + w)))]) (σ' := srl σ [(r_Machine_waysA, X)]) rfl ?_
            have hXw := hX0 w hww.1 hww.2
            refine wp_lc_le rfl (by omega) (by omega) rfl (fun h_2 => ?_) (fun h_2 => ?_)
            · show en_wp k_X1_goOneLetter 86 [some (.inr (.inr (r_Machine, 0))), some (.inl q), some (.inl m), some (.inl w), some (.inl x), none] [] (srl σ [(r_Machine_waysA, X)]) _
              refine wp_run 2 (pc' := 10) (ls' := [some (.inr (.inr (r_Machine, 0))), some (.inl q), some (.inl m), some (.inl (w + 1)), some (.inl x), none]) (st' := []) (σ' := srl σ [(r_Machine_waysA, X)]) rfl ?_
              refine wp_sub (l := [some (.inr (.inr (r_Machine, 0))), some (.inl q), some (.inl m), some (.inl (w + 1)), none, none]) (And.intro rfl (And.intro rfl (And.intro rfl (And.intro rfl trivial)))) ?_
              exact ih_10 (w + 1) X (by omega) hX0 (fun t h8 h9 => by rw [gW_s hww.1, gX_no (by omega)]; have := hG t h8 h9; rw [gX_no (by omega)] at this; exact this) (by omega)
            · show en_wp k_X1_goOneLetter 41 [some (.inr (.inr (r_Machine, 0))), some (.inl q), some (.inl m), some (.inl w), some (.inl x), none] [] (srl σ [(r_Machine_waysA, X)]) _
              refine wp_run 4 (pc' := 46) (ls' := [some (.inr (.inr (r_Machine, 0))), some (.inl q), some (.inl m), some (.inl w), some (.inl x), none]) (st' := [.inl x, .inl w, .inl q, .inr (.inr (r_Machine, 0))]) (σ' := srl σ [(r_Machine_waysA, X)]) rfl ?_
              refine wp_fnv (v := .inl (stp L n D q w x)) rfl rfl rfl rfl (ct_X1_step (srl σ [(r_Machine_waysA, X)]) n D p L q w x hI (by omega) (by omega) (by omega) g01 hLL) ?_
              show en_wp k_X1_goOneLetter 49 [some (.inr (.inr (r_Machine, 0))), some (.inl q), some (.inl m), some (.inl w), some (.inl x), none] [.inl (stp L n D q w x)] (srl σ [(r_Machine_waysA, X)]) _
              have q_3 : -1 ≤ stp L n D q w x ∧ stp L n D q w x < sW n D q := stp_b _ (by omega)
              refine wp_run 3 (pc' := 54) (ls' := [some (.inr (.inr (r_Machine, 0))), some (.inl q), some (.inl m), some (.inl w), some (.inl x), some (.inl (stp L n D q w x))]) (st' := [.inl (-1), .inl (stp L n D q w x)]) (σ' := srl σ [(r_Machine_waysA, X)]) rfl ?_
              refine wp_ic_eq rfl (by omega) (by omega) (fun h_4 => ?_) (fun h_4 => ?_)
              · show en_wp k_X1_goOneLetter 80 [some (.inr (.inr (r_Machine, 0))), some (.inl q), some (.inl m), some (.inl w), some (.inl x), some (.inl (stp L n D q w x))] [] (srl σ [(r_Machine_waysA, X)]) _
                refine wp_run 2 (pc' := 18) (ls' := [some (.inr (.inr (r_Machine, 0))), some (.inl q), some (.inl m), some (.inl w), some (.inl (x + 1)), some (.inl (stp L n D q w x))]) (st' := []) (σ' := srl σ [(r_Machine_waysA, X)]) rfl ?_
                refine wp_sub (l := [some (.inr (.inr (r_Machine, 0))), some (.inl q), some (.inl m), some (.inl w), some (.inl (x + 1)), none]) (And.intro rfl (And.intro rfl (And.intro rfl (And.intro rfl (And.intro rfl trivial))))) ?_
                exact ih_18 (x + 1) X (by omega) (by omega) hX0 (gX_cell0 (G := fun t => X (σ r_Machine_waysNext 0 + t)) hx.1 (by omega) hG) (by omega)
              · show en_wp k_X1_goOneLetter 57 [some (.inr (.inr (r_Machine, 0))), some (.inl q), some (.inl m), some (.inl w), some (.inl x), some (.inl (stp L n D q w x))] [] (srl σ [(r_Machine_waysA, X)]) _
                refine wp_run 1 (pc' := 58) (ls' := [some (.inr (.inr (r_Machine, 0))), some (.inl q), some (.inl m), some (.inl w), some (.inl x), some (.inl (stp L n D q w x))]) (st' := [.inr (.inr (r_Machine, 0))]) (σ' := srl σ [(r_Machine_waysA, X)]) rfl ?_
                refine wp_get4 rfl rfl rfl rfl (show (σ r_Machine_waysNext 0) = 0 ∨ (σ r_Machine_waysNext 0) = ((81 : Nat) : Int) from (by omega)) ?_
                show en_wp k_X1_goOneLetter 61 [some (.inr (.inr (r_Machine, 0))), some (.inl q), some (.inl m), some (.inl w), some (.inl x), some (.inl (stp L n D q w x))] [.inr (.inr (r_Machine_waysA, (σ r_Machine_waysNext 0)))] (srl σ [(r_Machine_waysA, X)]) _
                refine wp_run 2 (pc' := 64) (ls' := [some (.inr (.inr (r_Machine, 0))), some (.inl q), some (.inl m), some (.inl w), some (.inl x), some (.inl (stp L n D q w x))]) (st' := [.inr (.inr (r_Machine, 0)), .inl (stp L n D q w x), .inr (.inr (r_Machine_waysA, (σ r_Machine_waysNext 0)))]) (σ' := srl σ [(r_Machine_waysA, X)]) rfl ?_
                refine wp_get4 rfl rfl rfl rfl (show (σ r_Machine_waysNext 0) = 0 ∨ (σ r_Machine_waysNext 0) = ((81 : Nat) : Int) from (by omega)) ?_
                show en_wp k_X1_goOneLetter 67 [some (.inr (.inr (r_Machine, 0))), some (.inl q), some (.inl m), some (.inl w), some (.inl x), some (.inl (stp L n D q w x))] [.inr (.inr (r_Machine_waysA, (σ r_Machine_waysNext 0))), .inl (stp L n D q w x), .inr (.inr (r_Machine_waysA, (σ r_Machine_waysNext 0)))] (srl σ [(r_Machine_waysA, X)]) _
                refine wp_run 1 (pc' := 69) (ls' := [some (.inr (.inr (r_Machine, 0))), some (.inl q), some (.inl m), some (.inl w), some (.inl x), some (.inl (stp L n D q w x))]) (st' := [.inl (stp L n D q w x), .inr (.inr (r_Machine_waysA, (σ r_Machine_waysNext 0))), .inl (stp L n D q w x), .inr (.inr (r_Machine_waysA, (σ r_Machine_waysNext 0)))]) (σ' := srl σ [(r_Machine_waysA, X)]) rfl ?_
                refine wp_lald rfl rfl (by omega) ?_
                show en_wp k_X1_goOneLetter 70 [some (.inr (.inr (r_Machine, 0))), some (.inl q), some (.inl m), some (.inl w), some (.inl x), some (.inl (stp L n D q w x))] [.inr (.inl (X ((σ r_Machine_waysNext 0) + (stp L n D q w x)))), .inl (stp L n D q w x), .inr (.inr (r_Machine_waysA, (σ r_Machine_waysNext 0)))] (srl σ [(r_Machine_waysA, X)]) _
                refine wp_run 1 (pc' := 71) (ls' := [some (.inr (.inr (r_Machine, 0))), some (.inl q), some (.inl m), some (.inl w), some (.inl x), some (.inl (stp L n D q w x))]) (st' := [.inr (.inr (r_Machine, 0)), .inr (.inl (X ((σ r_Machine_waysNext 0) + (stp L n D q w x)))), .inl (stp L n D q w x), .inr (.inr (r_Machine_waysA, (σ r_Machine_waysNext 0)))]) (σ' := srl σ [(r_Machine_waysA, X)]) rfl ?_
                refine wp_get4 rfl rfl rfl rfl (show (σ r_Machine_ways 0) = 0 ∨ (σ r_Machine_ways 0) = ((81 : Nat) : Int) from (by omega)) ?_
                show en_wp k_X1_goOneLetter 74 [some (.inr (.inr (r_Machine, 0))), some (.inl q), some (.inl m), some (.inl w), some (.inl x), some (.inl (stp L n D q w x))] [.inr (.inr (r_Machine_waysA, (σ r_Machine_ways 0))), .inr (.inl (X ((σ r_Machine_waysNext 0) + (stp L n D q w x)))), .inl (stp L n D q w x), .inr (.inr (r_Machine_waysA, (σ r_Machine_waysNext 0)))] (srl σ [(r_Machine_waysA, X)]) _
                refine wp_run 1 (pc' := 75) (ls' := [some (.inr (.inr (r_Machine, 0))), some (.inl q), some (.inl m), some (.inl w), some (.inl x), some (.inl (stp L n D q w x))]) (st' := [.inl w, .inr (.inr (r_Machine_waysA, (σ r_Machine_ways 0))), .inr (.inl (X ((σ r_Machine_waysNext 0) + (stp L n D q w x)))), .inl (stp L n D q w x), .inr (.inr (r_Machine_waysA, (σ r_Machine_waysNext 0)))]) (σ' := srl σ [(r_Machine_waysA, X)]) rfl ?_
                refine wp_lald rfl rfl (by omega) ?_
                show en_wp k_X1_goOneLetter 76 [some (.inr (.inr (r_Machine, 0))), some (.inl q), some (.inl m), some (.inl w), some (.inl x), some (.inl (stp L n D q w x))] [.inr (.inl (X ((σ r_Machine_ways 0) + w))), .inr (.inl (X ((σ r_Machine_waysNext 0) + (stp L n D q w x)))), .inl (stp L n D q w x), .inr (.inr (r_Machine_waysA, (σ r_Machine_waysNext 0)))] (srl σ [(r_Machine_waysA, X)]) _
                have hGs := hGb (stp L n D q w x) (by omega) (by omega)
                have hXw := hX0 w hww.1 hww.2
                refine wp_fns (v := .inr (.inl (sat (X ((σ r_Machine_waysNext 0) + (stp L n D q w x))) (X ((σ r_Machine_ways 0) + w))))) rfl rfl rfl rfl rfl (ct_X1_addUpTo (srl σ [(r_Machine_waysA, X)]) (X ((σ r_Machine_waysNext 0) + (stp L n D q w x))) (X ((σ r_Machine_ways 0) + w)) (by omega) (by omega)) ?_
                show en_wp k_X1_goOneLetter 79 [some (.inr (.inr (r_Machine, 0))), some (.inl q), some (.inl m), some (.inl w), some (.inl x), some (.inl (stp L n D q w x))] [.inr (.inl (sat (X ((σ r_Machine_waysNext 0) + (stp L n D q w x))) (X ((σ r_Machine_ways 0) + w)))), .inl (stp L n D q w x), .inr (.inr (r_Machine_waysA, (σ r_Machine_waysNext 0)))] (srl σ [(r_Machine_waysA, X)]) _
                refine wp_last rfl rfl (by omega) (wp_wr (l2 := [(r_Machine_waysA, (up X ((σ r_Machine_waysNext 0) + (stp L n D q w x)) (sat (X ((σ r_Machine_waysNext 0) + (stp L n D q w x))) (X ((σ r_Machine_ways 0) + w)))))]) rfl ?_)
                show en_wp k_X1_goOneLetter 80 [some (.inr (.inr (r_Machine, 0))), some (.inl q), some (.inl m), some (.inl w), some (.inl x), some (.inl (stp L n D q w x))] [] (srl σ [(r_Machine_waysA, (up X ((σ r_Machine_waysNext 0) + (stp L n D q w x)) (sat (X ((σ r_Machine_waysNext 0) + (stp L n D q w x))) (X ((σ r_Machine_ways 0) + w)))))]) _
                refine wp_run 2 (pc' := 18) (ls' := [some (.inr (.inr (r_Machine, 0))), some (.inl q), some (.inl m), some (.inl w), some (.inl (x + 1)), some (.inl (stp L n D q w x))]) (st' := []) (σ' := srl σ [(r_Machine_waysA, (up X ((σ r_Machine_waysNext 0) + (stp L n D q w x)) (sat (X ((σ r_Machine_waysNext 0) + (stp L n D q w x))) (X ((σ r_Machine_ways 0) + w)))))]) rfl ?_
                refine wp_sub (l := [some (.inr (.inr (r_Machine, 0))), some (.inl q), some (.inl m), some (.inl w), some (.inl (x + 1)), none]) (And.intro rfl (And.intro rfl (And.intro rfl (And.intro rfl (And.intro rfl trivial))))) ?_
                exact ih_18 (x + 1) (up X ((σ r_Machine_waysNext 0) + (stp L n D q w x)) (sat (X ((σ r_Machine_waysNext 0) + (stp L n D q w x))) (X ((σ r_Machine_ways 0) + w)))) (by omega) (by omega) (fun t h8 h9 => by rw [up_ne (by omega)]; exact hX0 t h8 h9) (fun t h8 h9 => by rw [up_sh]; exact gX_cell (G := fun t => X (σ r_Machine_waysNext 0 + t)) hx.1 (by omega) (by omega) hG (by omega) (by rw [hXw]) t h8 h9) (by omega)
      refine wp_run 2 (pc' := 12) (ls' := [some (.inr (.inr (r_Machine, 0))), some (.inl q), some (.inl m), some (.inl w), none, none]) (st' := [.inl m, .inl w]) (σ' := srl σ [(r_Machine_waysA, X)]) rfl ?_
      refine wp_ic_ge rfl (by omega) (by omega) (fun h_5 => ?_) (fun h_5 => ?_)
      · show en_wp k_X1_goOneLetter 92 [some (.inr (.inr (r_Machine, 0))), some (.inl q), some (.inl m), some (.inl w), none, none] [] (srl σ [(r_Machine_waysA, X)]) _
        refine wp_run 1 (pc' := 93) (ls' := [some (.inr (.inr (r_Machine, 0))), some (.inl q), some (.inl m), some (.inl w), none, none]) (st' := [.inr (.inr (r_Machine, 0))]) (σ' := srl σ [(r_Machine_waysA, X)]) rfl ?_
        refine wp_get4 rfl rfl rfl rfl (show (σ r_Machine_ways 0) = 0 ∨ (σ r_Machine_ways 0) = ((81 : Nat) : Int) from (by omega)) ?_
        show en_wp k_X1_goOneLetter 96 [some (.inr (.inr (r_Machine, 0))), some (.inl q), some (.inl m), some (.inl w), none, none] [.inr (.inr (r_Machine_waysA, (σ r_Machine_ways 0)))] (srl σ [(r_Machine_waysA, X)]) _
        refine wp_run 3 (pc' := 99) (ls' := [some (.inr (.inr (r_Machine, 0))), some (.inl q), some (.inl m), some (.inr (.inr (r_Machine_waysA, (σ r_Machine_ways 0)))), none, none]) (st' := [.inr (.inr (r_Machine, 0)), .inr (.inr (r_Machine, 0))]) (σ' := srl σ [(r_Machine_waysA, X)]) rfl ?_
        refine wp_get4 rfl rfl rfl rfl (show (σ r_Machine_waysNext 0) = 0 ∨ (σ r_Machine_waysNext 0) = ((81 : Nat) : Int) from (by omega)) ?_
        show en_wp k_X1_goOneLetter 102 [some (.inr (.inr (r_Machine, 0))), some (.inl q), some (.inl m), some (.inr (.inr (r_Machine_waysA, (σ r_Machine_ways 0)))), none, none] [.inr (.inr (r_Machine_waysA, (σ r_Machine_waysNext 0))), .inr (.inr (r_Machine, 0))] (srl σ [(r_Machine_waysA, X)]) _
        refine wp_put4 rfl rfl rfl rfl (show (σ r_Machine_waysNext 0) = 0 ∨ (σ r_Machine_waysNext 0) = ((81 : Nat) : Int) from (by omega)) (wp_wr (l2 := [(r_Machine_waysA, X), (r_Machine_ways, (fun _ => (σ r_Machine_waysNext 0)))]) rfl ?_)
        show en_wp k_X1_goOneLetter 105 [some (.inr (.inr (r_Machine, 0))), some (.inl q), some (.inl m), some (.inr (.inr (r_Machine_waysA, (σ r_Machine_ways 0)))), none, none] [] (srl σ [(r_Machine_waysA, X), (r_Machine_ways, (fun _ => (σ r_Machine_waysNext 0)))]) _
        refine wp_run 2 (pc' := 107) (ls' := [some (.inr (.inr (r_Machine, 0))), some (.inl q), some (.inl m), some (.inr (.inr (r_Machine_waysA, (σ r_Machine_ways 0)))), none, none]) (st' := [.inr (.inr (r_Machine_waysA, (σ r_Machine_ways 0))), .inr (.inr (r_Machine, 0))]) (σ' := srl σ [(r_Machine_waysA, X), (r_Machine_ways, (fun _ => (σ r_Machine_waysNext 0)))]) rfl ?_
        refine wp_put4 rfl rfl rfl rfl (show (σ r_Machine_ways 0) = 0 ∨ (σ r_Machine_ways 0) = ((81 : Nat) : Int) from (by omega)) (wp_wr (l2 := [(r_Machine_waysA, X), (r_Machine_ways, (fun _ => (σ r_Machine_waysNext 0))), (r_Machine_waysNext, (fun _ => (σ r_Machine_ways 0)))]) rfl ?_)
        show en_wp k_X1_goOneLetter 110 [some (.inr (.inr (r_Machine, 0))), some (.inl q), some (.inl m), some (.inr (.inr (r_Machine_waysA, (σ r_Machine_ways 0)))), none, none] [] (srl σ [(r_Machine_waysA, X), (r_Machine_ways, (fun _ => (σ r_Machine_waysNext 0))), (r_Machine_waysNext, (fun _ => (σ r_Machine_ways 0)))]) _
        exact wp_vret rfl ⟨X, (fun _ => (σ r_Machine_waysNext 0)), (fun _ => (σ r_Machine_ways 0)), rfl, srl_eq (l' := [(r_Machine_waysA, X), (r_Machine_ways, (fun _ => (σ r_Machine_waysNext 0))), (r_Machine_waysNext, (fun _ => (σ r_Machine_ways 0)))]) (And.intro rfl (And.intro rfl (And.intro rfl trivial))) (And.intro rfl (And.intro rfl (And.intro rfl trivial))), ⟨⟨rfl, rfl⟩, fun t h8 h9 => by rw [← show w = sW n D q by omega]; exact hG t h8 h9⟩⟩
      · show en_wp k_X1_goOneLetter 15 [some (.inr (.inr (r_Machine, 0))), some (.inl q), some (.inl m), some (.inl w), none, none] [] (srl σ [(r_Machine_waysA, X)]) _
        refine wp_run 2 (pc' := 18) (ls' := [some (.inr (.inr (r_Machine, 0))), some (.inl q), some (.inl m), some (.inl w), some (.inl 0), none]) (st' := []) (σ' := srl σ [(r_Machine_waysA, X)]) rfl ?_
        exact L_18 _ 0 X (by omega) (by omega) hX0 hG (Nat.lt_succ_self _)
  refine wp_run 1 (pc' := 1) (ls' := [some (.inr (.inr (r_Machine, 0))), some (.inl q), some (.inl m), none, none, none]) (st' := [.inr (.inr (r_Machine, 0))]) (σ' := srl σ []) rfl ?_
  refine wp_get4 rfl rfl rfl rfl (show (σ r_Machine_waysNext 0) = 0 ∨ (σ r_Machine_waysNext 0) = ((81 : Nat) : Int) from (by omega)) ?_
  show en_wp k_X1_goOneLetter 4 [some (.inr (.inr (r_Machine, 0))), some (.inl q), some (.inl m), none, none, none] [.inr (.inr (r_Machine_waysA, (σ r_Machine_waysNext 0)))] (srl σ []) _
  refine wp_run 1 (pc' := 5) (ls' := [some (.inr (.inr (r_Machine, 0))), some (.inl q), some (.inl m), none, none, none]) (st' := [.inr (.inl 0), .inr (.inr (r_Machine_waysA, (σ r_Machine_waysNext 0)))]) (σ' := srl σ []) rfl ?_
  refine wp_calls rfl rfl rfl rfl rfl (ct_J7_fill_d0a16_Machine_waysA σ (σ r_Machine_waysNext 0) 0) ?_
  rintro _ _ ⟨rfl, rfl⟩
  show en_wp k_X1_goOneLetter 8 [some (.inr (.inr (r_Machine, 0))), some (.inl q), some (.inl m), none, none, none] [] (srl σ [(r_Machine_waysA, (seg (σ r_Machine_waysA) (σ r_Machine_waysNext 0) 81 (fun _ => 0)))]) _
  refine wp_run 2 (pc' := 10) (ls' := [some (.inr (.inr (r_Machine, 0))), some (.inl q), some (.inl m), some (.inl 0), none, none]) (st' := []) (σ' := srl σ [(r_Machine_waysA, (seg (σ r_Machine_waysA) (σ r_Machine_waysNext 0) 81 (fun _ => 0)))]) rfl ?_
  exact L_10 _ 0 (seg (σ r_Machine_waysA) (σ r_Machine_waysNext 0) 81 (fun _ => 0)) (by omega) (fun t h8 h9 => by rw [seg_out (by omega)]; exact hF.2 t h8 h9) (fun t h8 h9 => seg_in (g := fun _ => 0) (by omega)) (Nat.lt_succ_self _)
theorem ct_X1_leftOf (σ : en_m) (n : Int) (D : Int) (p : Int) (L : Int → Int) (m : Int) (hI : cS0 σ n D p) (h1 : 0 ≤ m ∧ m ≤ 60) (hab : ((σ r_Machine_ways) 0 = 0 ∧ (σ r_Machine_waysNext) 0 = 81) ∨ ((σ r_Machine_ways) 0 = 81 ∧ (σ r_Machine_waysNext) 0 = 0)) (hsz : ∀ k, 0 ≤ k → k ≤ D → 0 ≤ (σ r_Nought0_sizes) k ∧ (σ r_Nought0_sizes) k ≤ 256) (g01 : R01 ((σ r_Nought0_leading))) (hLL : ∀ x, 0 ≤ x → x < sS n D (D + 1) → (σ r_Nought0_leading) x = L x) : en_ct z_X1_leftOf [.inr (.inr (r_Machine, 0)), .inl m] σ (fun r σ' => ∃ (f_Machine_waysA : Int → Int), ∃ (v_Machine_ways : Int → Int), ∃ (v_Machine_waysNext : Int → Int), ∃ (rr : Int), r = some (.inr (.inl rr)) ∧ σ' = srl σ [(r_Machine_waysA, f_Machine_waysA), (r_Machine_ways, v_Machine_ways), (r_Machine_waysNext, v_Machine_waysNext)] ∧ ((m ≤ D ∧ rr = (σ r_Nought0_sizes) m) ∨ (D < m ∧ ∃ q, isPL L n D q ∧ rr = smS (wy L n D q (m - q).toNat) (sW n D q).toNat)) ∧ (((v_Machine_ways 0) = 0 ∧ (v_Machine_waysNext 0) = 81) ∨ ((v_Machine_ways 0) = 81 ∧ (v_Machine_waysNext 0) = 0))) := by
  show en_wp k_X1_leftOf 0 [some (.inr (.inr (r_Machine, 0))), some (.inl m), none, none, none, none, none] [] (srl σ []) (fun r σ' => ∃ (f_Machine_waysA : Int → Int), ∃ (v_Machine_ways : Int → Int), ∃ (v_Machine_waysNext : Int → Int), ∃ (rr : Int), r = some (.inr (.inl rr)) ∧ σ' = srl σ [(r_Machine_waysA, f_Machine_waysA), (r_Machine_ways, v_Machine_ways), (r_Machine_waysNext, v_Machine_waysNext)] ∧ ((m ≤ D ∧ rr = (σ r_Nought0_sizes) m) ∨ (D < m ∧ ∃ q, isPL L n D q ∧ rr = smS (wy L n D q (m - q).toNat) (sW n D q).toNat)) ∧ (((v_Machine_ways 0) = 0 ∧ (v_Machine_waysNext 0) = 81) ∨ ((v_Machine_ways 0) = 81 ∧ (v_Machine_waysNext 0) = 0)))
  have hI2 := hI
  obtain ⟨hO, hn, hD, hp, hm, hst, hln⟩ := hI2
  obtain ⟨⟨hO1, hO2⟩, ⟨hO3, hO4⟩, hO5, hO6, hO7, hO8⟩ := id hO
  have L_107 : ∀ (N : Nat) (s : Int) (w : Int) (q : Int) (X : Int → Int) (WV : Int → Int) (NV : Int → Int), (D < m) → (isPL L n D q) → (0 ≤ w ∧ w ≤ sW n D q) → ((WV 0 = 0 ∧ NV 0 = 81) ∨ (WV 0 = 81 ∧ NV 0 = 0)) → (∀ t, 0 ≤ t → t < sW n D q → X (WV 0 + t) = wy L n D q (m - q).toNat t) → (s = smS (wy L n D q (m - q).toNat) w.toNat) → (sW n D q - w).toNat < N → en_wp k_X1_leftOf 107 [some (.inr (.inr (r_Machine, 0))), none, none, some (.inl (sW n D q)), some (.inr (.inl s)), none, some (.inl w)] [] (srl σ [(r_Machine_waysA, X), (r_Machine_ways, WV), (r_Machine_waysNext, NV)]) (fun r σ' => ∃ (f_Machine_waysA : Int → Int), ∃ (v_Machine_ways : Int → Int), ∃ (v_Machine_waysNext : Int → Int), ∃ (rr : Int), r = some (.inr (.inl rr)) ∧ σ' = srl σ [(r_Machine_waysA, f_Machine_waysA), (r_Machine_ways, v_Machine_ways), (r_Machine_waysNext, v_Machine_waysNext)] ∧ ((m ≤ D ∧ rr = (σ r_Nought0_sizes) m) ∨ (D < m ∧ ∃ q, isPL L n D q ∧ rr = smS (wy L n D q (m - q).toNat) (sW n D q).toNat)) ∧ (((v_Machine_ways 0) = 0 ∧ (v_Machine_waysNext 0) = 81) ∨ ((v_Machine_ways 0) = 81 ∧ (v_Machine_waysNext 0) = 0))) := by
    intro N
    induction N with
    | zero => intro s w q X WV NV; intros; omega
    | succ N ih_107 =>
      intro s w q X WV NV hmD hq hw hab2 hX hs hN_107
      have hqb := isPL_b hq hO3
      have hWq := sW_b (k := q) hO
      have h81 := sW_81 hO hqb.2.2
      have hsb : inL s := by rw [hs]; exact smS_b (wy_b _) _
      refine wp_run 2 (pc' := 110) (ls' := [some (.inr (.inr (r_Machine, 0))), none, none, some (.inl (sW n D q)), some (.inr (.inl s)), none, some (.inl w)]) (st' := [.inl (sW n D q), .inl w]) (σ' := srl σ [(r_Machine_waysA, X), (r_Machine_ways, WV), (r_Machine_waysNext, NV)]) rfl ?_
      refine wp_ic_ge rfl (by omega) (by omega) (fun h_1 => ?_) (fun h_1 => ?_)
      · show en_wp k_X1_leftOf 133 [some (.inr (.inr (r_Machine, 0))), none, none, some (.inl (sW n D q)), some (.inr (.inl s)), none, some (.inl w)] [] (srl σ [(r_Machine_waysA, X), (r_Machine_ways, WV), (r_Machine_waysNext, NV)]) _
        refine wp_run 1 (pc' := 135) (ls' := [some (.inr (.inr (r_Machine, 0))), none, none, some (.inl (sW n D q)), some (.inr (.inl s)), none, some (.inl w)]) (st' := [.inr (.inl s)]) (σ' := srl σ [(r_Machine_waysA, X), (r_Machine_ways, WV), (r_Machine_waysNext, NV)]) rfl ?_
        exact wp_lret rfl ⟨X, WV, NV, s, rfl, srl_eq (l' := [(r_Machine_waysA, X), (r_Machine_ways, WV), (r_Machine_waysNext, NV)]) (And.intro rfl (And.intro rfl (And.intro rfl trivial))) (And.intro rfl (And.intro rfl (And.intro rfl trivial))), ⟨.inr ⟨hmD, q, hq, by rw [hs, show w = sW n D q by omega]⟩, hab2⟩⟩
      · show en_wp k_X1_leftOf 113 [some (.inr (.inr (r_Machine, 0))), none, none, some (.inl (sW n D q)), some (.inr (.inl s)), none, some (.inl w)] [] (srl σ [(r_Machine_waysA, X), (r_Machine_ways, WV), (r_Machine_waysNext, NV)]) _
        refine wp_run 2 (pc' := 116) (ls' := [some (.inr (.inr (r_Machine, 0))), none, none, some (.inl (sW n D q)), some (.inr (.inl s)), none, some (.inl w)]) (st' := [.inr (.inr (r_Machine, 0)), .inr (.inl s)]) (σ' := srl σ [(r_Machine_waysA, X), (r_Machine_ways, WV), (r_Machine_waysNext, NV)]) rfl ?_
        refine wp_get4 rfl rfl rfl rfl (show (WV 0) = 0 ∨ (WV 0) = ((81 : Nat) : Int) from (by omega)) ?_
        show en_wp k_X1_leftOf 119 [some (.inr (.inr (r_Machine, 0))), none, none, some (.inl (sW n D q)), some (.inr (.inl s)), none, some (.inl w)] [.inr (.inr (r_Machine_waysA, (WV 0))), .inr (.inl s)] (srl σ [(r_Machine_waysA, X), (r_Machine_ways, WV), (r_Machine_waysNext, NV)]) _
        refine wp_run 1 (pc' := 121) (ls' := [some (.inr (.inr (r_Machine, 0))), none, none, some (.inl (sW n D q)), some (.inr (.inl s)), none, some (.inl w)]) (st' := [.inl w, .inr (.inr (r_Machine_waysA, (WV 0))), .inr (.inl s)]) (σ' := srl σ [(r_Machine_waysA, X), (r_Machine_ways, WV), (r_Machine_waysNext, NV)]) rfl ?_
        refine wp_lald rfl rfl (by omega) ?_
        show en_wp k_X1_leftOf 122 [some (.inr (.inr (r_Machine, 0))), none, none, some (.inl (sW n D q)), some (.inr (.inl s)), none, some (.inl w)] [.inr (.inl (X ((WV 0) + w))), .inr (.inl s)] (srl σ [(r_Machine_waysA, X), (r_Machine_ways, WV), (r_Machine_waysNext, NV)]) _
        have hXw : inL (X (WV 0 + w)) := by rw [hX w hw.1 (by omega)]; exact wy_b _ _
        refine wp_fns (v := .inr (.inl (sat s (X ((WV 0) + w))))) rfl rfl rfl rfl rfl (ct_X1_addUpTo (srl σ [(r_Machine_waysA, X), (r_Machine_ways, WV), (r_Machine_waysNext, NV)]) s (X ((WV 0) + w)) (by omega) (by omega)) ?_
        show en_wp k_X1_leftOf 125 [some (.inr (.inr (r_Machine, 0))), none, none, some (.inl (sW n D q)), some (.inr (.inl s)), none, some (.inl w)] [.inr (.inl (sat s (X ((WV 0) + w))))] (srl σ [(r_Machine_waysA, X), (r_Machine_ways, WV), (r_Machine_waysNext, NV)]) _
        refine wp_run 3 (pc' := 107) (ls' := [some (.inr (.inr (r_Machine, 0))), none, none, some (.inl (sW n D q)), some (.inr (.inl (sat s (X ((WV 0) + w))))), none, some (.inl (w + 1))]) (st' := []) (σ' := srl σ [(r_Machine_waysA, X), (r_Machine_ways, WV), (r_Machine_waysNext, NV)]) rfl ?_
        exact ih_107 (sat s (X ((WV 0) + w))) (w + 1) _ X WV NV (by omega) hq (by omega) hab2 hX (by rw [hs, smS_s hw.1, hX w hw.1 (by omega)]) (by omega)
  have L_83 : ∀ (N : Nat) (k : Int) (q : Int) (X : Int → Int) (WV : Int → Int) (NV : Int → Int), (D < m) → (isPL L n D q) → (q ≤ k ∧ k ≤ m) → ((WV 0 = 0 ∧ NV 0 = 81) ∨ (WV 0 = 81 ∧ NV 0 = 0)) → (∀ t, 0 ≤ t → t < sW n D q → X (WV 0 + t) = wy L n D q (k - q).toNat t) → (m - k).toNat < N → en_wp k_X1_leftOf 83 [some (.inr (.inr (r_Machine, 0))), some (.inl m), some (.inl q), some (.inl (sW n D q)), some (.inl k), none, none] [] (srl σ [(r_Machine_waysA, X), (r_Machine_ways, WV), (r_Machine_waysNext, NV)]) (fun r σ' => ∃ (f_Machine_waysA : Int → Int), ∃ (v_Machine_ways : Int → Int), ∃ (v_Machine_waysNext : Int → Int), ∃ (rr : Int), r = some (.inr (.inl rr)) ∧ σ' = srl σ [(r_Machine_waysA, f_Machine_waysA), (r_Machine_ways, v_Machine_ways), (r_Machine_waysNext, v_Machine_waysNext)] ∧ ((m ≤ D ∧ rr = (σ r_Nought0_sizes) m) ∨ (D < m ∧ ∃ q, isPL L n D q ∧ rr = smS (wy L n D q (m - q).toNat) (sW n D q).toNat)) ∧ (((v_Machine_ways 0) = 0 ∧ (v_Machine_waysNext 0) = 81) ∨ ((v_Machine_ways 0) = 81 ∧ (v_Machine_waysNext 0) = 0))) := by
    intro N
    induction N with
    | zero => intro k q X WV NV; intros; omega
    | succ N ih_83 =>
      intro k q X WV NV hmD hq hk hab2 hX hN_83
      have hqb := isPL_b hq hO3
      have hWq := sW_b (k := q) hO
      have h81 := sW_81 hO hqb.2.2
      refine wp_run 2 (pc' := 86) (ls' := [some (.inr (.inr (r_Machine, 0))), some (.inl m), some (.inl q), some (.inl (sW n D q)), some (.inl k), none, none]) (st' := [.inl m, .inl k]) (σ' := srl σ [(r_Machine_waysA, X), (r_Machine_ways, WV), (r_Machine_waysNext, NV)]) rfl ?_
      refine wp_ic_ge rfl (by omega) (by omega) (fun h_2 => ?_) (fun h_2 => ?_)
      · show en_wp k_X1_leftOf 101 [some (.inr (.inr (r_Machine, 0))), some (.inl m), some (.inl q), some (.inl (sW n D q)), some (.inl k), none, none] [] (srl σ [(r_Machine_waysA, X), (r_Machine_ways, WV), (r_Machine_waysNext, NV)]) _
        refine wp_run 4 (pc' := 107) (ls' := [some (.inr (.inr (r_Machine, 0))), some (.inl m), some (.inl q), some (.inl (sW n D q)), some (.inr (.inl 0)), none, some (.inl 0)]) (st' := []) (σ' := srl σ [(r_Machine_waysA, X), (r_Machine_ways, WV), (r_Machine_waysNext, NV)]) rfl ?_
        refine wp_sub (l := [some (.inr (.inr (r_Machine, 0))), none, none, some (.inl (sW n D q)), some (.inr (.inl 0)), none, some (.inl 0)]) (And.intro rfl (And.intro rfl (And.intro rfl (And.intro rfl trivial)))) ?_
        exact L_107 _ 0 0 _ X WV NV (by omega) hq (by omega) hab2 (fun t h8 h9 => by rw [← show k = m by omega]; exact hX t h8 h9) rfl (Nat.lt_succ_self _)
      · show en_wp k_X1_leftOf 89 [some (.inr (.inr (r_Machine, 0))), some (.inl m), some (.inl q), some (.inl (sW n D q)), some (.inl k), none, none] [] (srl σ [(r_Machine_waysA, X), (r_Machine_ways, WV), (r_Machine_waysNext, NV)]) _
        refine wp_run 3 (pc' := 92) (ls' := [some (.inr (.inr (r_Machine, 0))), some (.inl m), some (.inl q), some (.inl (sW n D q)), some (.inl k), none, none]) (st' := [.inl (sW n D q), .inl q, .inr (.inr (r_Machine, 0))]) (σ' := srl σ [(r_Machine_waysA, X), (r_Machine_ways, WV), (r_Machine_waysNext, NV)]) rfl ?_
        refine wp_callv rfl rfl rfl rfl (ct_X1_goOneLetter (srl σ [(r_Machine_waysA, X), (r_Machine_ways, WV), (r_Machine_waysNext, NV)]) n D p L (wy L n D q (k - q).toNat) q (sW n D q) hI (by omega) (by omega) hab2 ⟨wy_b _, hX⟩ g01 hLL) ?_
        rintro _ _ ⟨f_3, v_4, v_5, rfl, rfl, p_6, p_7⟩
        have p_6 : (v_4 0) = NV 0 ∧ (v_5 0) = WV 0 := p_6
        have p_7 : ∀ t, 0 ≤ t → t < sW n D q → f_3 (NV 0 + t) = gW L n D q (wy L n D q (k - q).toNat) (sW n D q).toNat t := p_7
        refine wp_bk (l2 := [(r_Machine_waysA, f_3), (r_Machine_ways, v_4), (r_Machine_waysNext, v_5)]) rfl rfl ?_
        show en_wp k_X1_leftOf 95 [some (.inr (.inr (r_Machine, 0))), some (.inl m), some (.inl q), some (.inl (sW n D q)), some (.inl k), none, none] [] (srl σ [(r_Machine_waysA, f_3), (r_Machine_ways, v_4), (r_Machine_waysNext, v_5)]) _
        have kg := (⟨p_6, p_7⟩ : _ ∧ _)
        refine wp_run 2 (pc' := 83) (ls' := [some (.inr (.inr (r_Machine, 0))), some (.inl m), some (.inl q), some (.inl (sW n D q)), some (.inl (k + 1)), none, none]) (st' := []) (σ' := srl σ [(r_Machine_waysA, f_3), (r_Machine_ways, v_4), (r_Machine_waysNext, v_5)]) rfl ?_
        exact ih_83 (k + 1) q f_3 v_4 v_5 (by omega) hq (by omega) (by rw [kg.1.1, kg.1.2]; omega) (fun t h8 h9 => by rw [kg.1.1, wy_s (by omega)]; exact kg.2 t h8 h9) (by omega)
  have L_43 : ∀ (N : Nat) (w : Int) (q : Int) (X : Int → Int), (D < m) → (isPL L n D q) → (0 ≤ w ∧ w ≤ sW n D q) → (∀ t, 0 ≤ t → t < w → X (σ r_Machine_ways 0 + t) = wy L n D q 0 t) → (sW n D q - w).toNat < N → en_wp k_X1_leftOf 43 [some (.inr (.inr (r_Machine, 0))), some (.inl m), some (.inl q), some (.inl (sW n D q)), some (.inl w), none, none] [] (srl σ [(r_Machine_waysA, X)]) (fun r σ' => ∃ (f_Machine_waysA : Int → Int), ∃ (v_Machine_ways : Int → Int), ∃ (v_Machine_waysNext : Int → Int), ∃ (rr : Int), r = some (.inr (.inl rr)) ∧ σ' = srl σ [(r_Machine_waysA, f_Machine_waysA), (r_Machine_ways, v_Machine_ways), (r_Machine_waysNext, v_Machine_waysNext)] ∧ ((m ≤ D ∧ rr = (σ r_Nought0_sizes) m) ∨ (D < m ∧ ∃ q, isPL L n D q ∧ rr = smS (wy L n D q (m - q).toNat) (sW n D q).toNat)) ∧ (((v_Machine_ways 0) = 0 ∧ (v_Machine_waysNext 0) = 81) ∨ ((v_Machine_ways 0) = 81 ∧ (v_Machine_waysNext 0) = 0))) := by
    intro N
    induction N with
    | zero => intro w q X; intros; omega
    | succ N ih_43 =>
      intro w q X hmD hq hw hX hN_43
      have hqb := isPL_b hq hO3
      have hWq := sW_b (k := q) hO
      have h81 := sW_81 hO hqb.2.2
      refine wp_run 2 (pc' := 46) (ls' := [some (.inr (.inr (r_Machine, 0))), some (.inl m), some (.inl q), some (.inl (sW n D q)), some (.inl w), none, none]) (st' := [.inl (sW n D q), .inl w]) (σ' := srl σ [(r_Machine_waysA, X)]) rfl ?_
      refine wp_ic_ge rfl (by omega) (by omega) (fun h_8 => ?_) (fun h_8 => ?_)
      · show en_wp k_X1_leftOf 80 [some (.inr (.inr (r_Machine, 0))), some (.inl m), some (.inl q), some (.inl (sW n D q)), some (.inl w), none, none] [] (srl σ [(r_Machine_waysA, X)]) _
        refine wp_run 2 (pc' := 83) (ls' := [some (.inr (.inr (r_Machine, 0))), some (.inl m), some (.inl q), some (.inl (sW n D q)), some (.inl q), none, none]) (st' := []) (σ' := srl σ [(r_Machine_waysA, X)]) rfl ?_
        refine wp_mem (srl_eq (l' := [(r_Machine_waysA, X), (r_Machine_ways, (σ r_Machine_ways)), (r_Machine_waysNext, (σ r_Machine_waysNext))]) (And.intro rfl trivial) (And.intro rfl (And.intro rfl (And.intro rfl trivial)))) ?_
        exact L_83 _ q q X (σ r_Machine_ways) (σ r_Machine_waysNext) (by omega) hq (by omega) hab (fun t h8 h9 => by rw [Int.sub_self]; exact hX t h8 (by omega)) (Nat.lt_succ_self _)
      · show en_wp k_X1_leftOf 49 [some (.inr (.inr (r_Machine, 0))), some (.inl m), some (.inl q), some (.inl (sW n D q)), some (.inl w), none, none] [] (srl σ [(r_Machine_waysA, X)]) _
        refine wp_run 1 (pc' := 50) (ls' := [some (.inr (.inr (r_Machine, 0))), some (.inl m), some (.inl q), some (.inl (sW n D q)), some (.inl w), none, none]) (st' := [.inr (.inr (r_Machine, 0))]) (σ' := srl σ [(r_Machine_waysA, X)]) rfl ?_
        refine wp_get4 rfl rfl rfl rfl (show (σ r_Machine_ways 0) = 0 ∨ (σ r_Machine_ways 0) = ((81 : Nat) : Int) from (by omega)) ?_
        show en_wp k_X1_leftOf 53 [some (.inr (.inr (r_Machine, 0))), some (.inl m), some (.inl q), some (.inl (sW n D q)), some (.inl w), none, none] [.inr (.inr (r_Machine_waysA, (σ r_Machine_ways 0)))] (srl σ [(r_Machine_waysA, X)]) _
        refine wp_run 5 (pc' := 62) (ls' := [some (.inr (.inr (r_Machine, 0))), some (.inl m), some (.inl q), some (.inl (sW n D q)), some (.inl w), none, none]) (st' := [.inl w, .inl q, .inr (.inr (r_Nought0, 0)), .inl w, .inr (.inr (r_Machine_waysA, (σ r_Machine_ways 0)))]) (σ' := srl σ [(r_Machine_waysA, X)]) rfl ?_
        refine wp_fnv (v := .inl (bI ((0 ≤ w ∧ w < sW n D q) ∧ ¬ L (sS n D q + w) = 0))) rfl rfl rfl rfl (ct_X3_isLeading_Nought0_L (srl σ [(r_Machine_waysA, X)]) n D p L _ q w hI (by omega) (by omega) g01 hLL (by omega)) ?_
        show en_wp k_X1_leftOf 65 [some (.inr (.inr (r_Machine, 0))), some (.inl m), some (.inl q), some (.inl (sW n D q)), some (.inl w), none, none] [.inl (bI ((0 ≤ w ∧ w < sW n D q) ∧ ¬ L (sS n D q + w) = 0)), .inl w, .inr (.inr (r_Machine_waysA, (σ r_Machine_ways 0)))] (srl σ [(r_Machine_waysA, X)]) _
        refine wp_if_eqb rfl (fun h_9 => ?_) (fun h_9 => ?_)
        · have hLw : L (sS n D q + w) = 0 := Decidable.byContradiction fun g => h_9 ⟨by omega, g⟩
          show en_wp k_X1_leftOf 72 [some (.inr (.inr (r_Machine, 0))), some (.inl m), some (.inl q), some (.inl (sW n D q)), some (.inl w), none, none] [.inl w, .inr (.inr (r_Machine_waysA, (σ r_Machine_ways 0)))] (srl σ [(r_Machine_waysA, X)]) _
          refine wp_run 1 (pc' := 73) (ls' := [some (.inr (.inr (r_Machine, 0))), some (.inl m), some (.inl q), some (.inl (sW n D q)), some (.inl w), none, none]) (st' := [.inr (.inl 1), .inl w, .inr (.inr (r_Machine_waysA, (σ r_Machine_ways 0)))]) (σ' := srl σ [(r_Machine_waysA, X)]) rfl ?_
          refine wp_last rfl rfl (by omega) (wp_wr (l2 := [(r_Machine_waysA, (up X ((σ r_Machine_ways 0) + w) 1))]) rfl ?_)
          show en_wp k_X1_leftOf 74 [some (.inr (.inr (r_Machine, 0))), some (.inl m), some (.inl q), some (.inl (sW n D q)), some (.inl w), none, none] [] (srl σ [(r_Machine_waysA, (up X ((σ r_Machine_ways 0) + w) 1))]) _
          refine wp_run 2 (pc' := 43) (ls' := [some (.inr (.inr (r_Machine, 0))), some (.inl m), some (.inl q), some (.inl (sW n D q)), some (.inl (w + 1)), none, none]) (st' := []) (σ' := srl σ [(r_Machine_waysA, (up X ((σ r_Machine_ways 0) + w) 1))]) rfl ?_
          exact ih_43 (w + 1) q (up X ((σ r_Machine_ways 0) + w) 1) (by omega) hq (by omega) (fun t h8 h9 => by rcases Int.lt_or_eq_of_le (show t ≤ w by omega) with h5 | h5 <;> first | (rw [up_ne (by omega)]; exact hX t h8 h5) | (rw [h5, up_eq]; exact (if_pos hLw).symm)) (by omega)
        · have hLw := h_9.2
          show en_wp k_X1_leftOf 68 [some (.inr (.inr (r_Machine, 0))), some (.inl m), some (.inl q), some (.inl (sW n D q)), some (.inl w), none, none] [.inl w, .inr (.inr (r_Machine_waysA, (σ r_Machine_ways 0)))] (srl σ [(r_Machine_waysA, X)]) _
          refine wp_run 2 (pc' := 73) (ls' := [some (.inr (.inr (r_Machine, 0))), some (.inl m), some (.inl q), some (.inl (sW n D q)), some (.inl w), none, none]) (st' := [.inr (.inl 0), .inl w, .inr (.inr (r_Machine_waysA, (σ r_Machine_ways 0)))]) (σ' := srl σ [(r_Machine_waysA, X)]) rfl ?_
          refine wp_last rfl rfl (by omega) (wp_wr (l2 := [(r_Machine_waysA, (up X ((σ r_Machine_ways 0) + w) 0))]) rfl ?_)
          show en_wp k_X1_leftOf 74 [some (.inr (.inr (r_Machine, 0))), some (.inl m), some (.inl q), some (.inl (sW n D q)), some (.inl w), none, none] [] (srl σ [(r_Machine_waysA, (up X ((σ r_Machine_ways 0) + w) 0))]) _
          refine wp_run 2 (pc' := 43) (ls' := [some (.inr (.inr (r_Machine, 0))), some (.inl m), some (.inl q), some (.inl (sW n D q)), some (.inl (w + 1)), none, none]) (st' := []) (σ' := srl σ [(r_Machine_waysA, (up X ((σ r_Machine_ways 0) + w) 0))]) rfl ?_
          exact ih_43 (w + 1) q (up X ((σ r_Machine_ways 0) + w) 0) (by omega) hq (by omega) (fun t h8 h9 => by rcases Int.lt_or_eq_of_le (show t ≤ w by omega) with h5 | h5 <;> first | (rw [up_ne (by omega)]; exact hX t h8 h5) | (rw [h5, up_eq]; exact (if_neg hLw).symm)) (by omega)
  refine wp_run 3 (pc' := 5) (ls' := [some (.inr (.inr (r_Machine, 0))), some (.inl m), none, none, none, none, none]) (st' := [.inr (.inr (r_Shape0, 0)), .inl m]) (σ' := srl σ []) rfl ?_
  refine wp_fnv (v := .inl D) rfl rfl rfl rfl (ct_X5_longest_Shape0 σ n D p hI) ?_
  show en_wp k_X1_leftOf 8 [some (.inr (.inr (r_Machine, 0))), some (.inl m), none, none, none, none, none] [.inl D, .inl m] (srl σ []) _
  refine wp_ic_gt rfl (by omega) (by omega) (fun h_10 => ?_) (fun h_10 => ?_)
  · show en_wp k_X1_leftOf 21 [some (.inr (.inr (r_Machine, 0))), some (.inl m), none, none, none, none, none] [] (srl σ []) _
    refine wp_run 1 (pc' := 22) (ls' := [some (.inr (.inr (r_Machine, 0))), some (.inl m), none, none, none, none, none]) (st' := [.inr (.inr (r_Machine, 0))]) (σ' := srl σ []) rfl ?_
    refine wp_callv rfl rfl rfl rfl (ct_X1_placeLetters σ n D p L hI g01 hLL) ?_
    rintro _ _ ⟨r_11, rfl, rfl, p_12⟩
    have p_12 : isPL L n D r_11 := p_12
    show en_wp k_X1_leftOf 25 [some (.inr (.inr (r_Machine, 0))), some (.inl m), none, none, none, none, none] [.inl r_11] (srl σ []) _
    have hpl := p_12
    have hqb := isPL_b hpl hO3
    have hWq := sW_b (k := r_11) hO
    have h81 := sW_81 hO hqb.2.2
    have hmn : min (sW n D r_11) 81 = sW n D r_11 := Int.min_eq_left h81
    refine wp_run 4 (pc' := 31) (ls' := [some (.inr (.inr (r_Machine, 0))), some (.inl m), some (.inl r_11), none, none, none, none]) (st' := [.inl r_11, .inr (.inr (r_Shape0, 0))]) (σ' := srl σ []) rfl ?_
    refine wp_fnv (v := .inl (sW n D r_11)) rfl rfl rfl rfl (ct_X5_wordsOf_Shape0 σ n D p r_11 hI (by omega)) ?_
    show en_wp k_X1_leftOf 34 [some (.inr (.inr (r_Machine, 0))), some (.inl m), some (.inl r_11), none, none, none, none] [.inl (sW n D r_11)] (srl σ []) _
    have q_13 : 0 ≤ sW n D r_11 ∧ sW n D r_11 ≤ 256 := sW_b hO
    refine wp_run 1 (pc' := 36) (ls' := [some (.inr (.inr (r_Machine, 0))), some (.inl m), some (.inl r_11), none, none, none, none]) (st' := [.inl 81, .inl (sW n D r_11)]) (σ' := srl σ []) rfl ?_
    refine wp_min rfl rfl (by omega) (by omega) ?_
    show en_wp k_X1_leftOf 39 [some (.inr (.inr (r_Machine, 0))), some (.inl m), some (.inl r_11), none, none, none, none] [.inl (min (sW n D r_11) 81)] (srl σ []) _
    rw [hmn]
    show en_wp k_X1_leftOf 39 [some (.inr (.inr (r_Machine, 0))), some (.inl m), some (.inl r_11), none, none, none, none] [.inl (sW n D r_11)] (srl σ []) _
    refine wp_run 3 (pc' := 43) (ls' := [some (.inr (.inr (r_Machine, 0))), some (.inl m), some (.inl r_11), some (.inl (sW n D r_11)), some (.inl 0), none, none]) (st' := []) (σ' := srl σ []) rfl ?_
    refine wp_mem (srl_eq (l' := [(r_Machine_waysA, (σ r_Machine_waysA))]) trivial (And.intro rfl trivial)) ?_
    exact L_43 _ 0 r_11 (σ r_Machine_waysA) (by omega) hpl (by omega) (fun t h8 h9 => by omega) (Nat.lt_succ_self _)
  · show en_wp k_X1_leftOf 11 [some (.inr (.inr (r_Machine, 0))), some (.inl m), none, none, none, none, none] [] (srl σ []) _
    refine wp_run 3 (pc' := 16) (ls' := [some (.inr (.inr (r_Machine, 0))), some (.inl m), none, none, none, none, none]) (st' := [.inl m, .inr (.inr (r_Nought0, 0))]) (σ' := srl σ []) rfl ?_
    refine wp_fnv (v := .inl (if 0 ≤ m ∧ m ≤ D then (σ r_Nought0_sizes) m else 0)) rfl rfl rfl rfl (ct_X3_sizeOf_Nought0 σ n D p m hI (by omega)) ?_
    show en_wp k_X1_leftOf 19 [some (.inr (.inr (r_Machine, 0))), some (.inl m), none, none, none, none, none] [.inl (if 0 ≤ m ∧ m ≤ D then (σ r_Nought0_sizes) m else 0)] (srl σ []) _
    rw [if_pos (show 0 ≤ m ∧ m ≤ D by omega)]
    show en_wp k_X1_leftOf 19 [some (.inr (.inr (r_Machine, 0))), some (.inl m), none, none, none, none, none] [.inl (σ r_Nought0_sizes m)] (srl σ []) _
    have hz := hsz m (by omega) (by omega)
    refine wp_i2l rfl (by omega) ?_
    show en_wp k_X1_leftOf 20 [some (.inr (.inr (r_Machine, 0))), some (.inl m), none, none, none, none, none] [.inr (.inl (σ r_Nought0_sizes m))] (srl σ []) _
    exact wp_lret rfl ⟨(σ r_Machine_waysA), (σ r_Machine_ways), (σ r_Machine_waysNext), (σ r_Nought0_sizes m), rfl, srl_eq (l' := [(r_Machine_waysA, σ r_Machine_waysA), (r_Machine_ways, σ r_Machine_ways), (r_Machine_waysNext, σ r_Machine_waysNext)]) trivial (And.intro rfl (And.intro rfl (And.intro rfl trivial))), ⟨.inl ⟨by omega, rfl⟩, hab⟩⟩
