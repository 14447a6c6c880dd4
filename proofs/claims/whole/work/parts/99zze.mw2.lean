/-! contracts of methods, walked (written by wip/whole/walk.py from the annotations ann_m54) -/
theorem ct_X12_holdsPoint (σ : en_m) (n : Int) (D : Int) (p : Int) (d : Int) (k : Int) (hI : mI σ n D p) (hk : 0 ≤ k ∧ k < 8) (hgv : R97 ((σ r_Md_given))) (hde : d = (σ r_Md_lawLength) (8 * (σ r_Md_live) 0 + k)) (hl9 : (0 ≤ d ∧ d ≤ D) ∧ (1 ≤ d → 0 < n)) (hlR : R97 ((σ r_Md_lawRow))) : en_ct z_X12_holdsPoint [.inr (.inr (r_Md, 0)), .inl k] σ (fun r σ' => ∃ (rr : Int), r = some (.inl rr) ∧ σ' = srl σ [] ∧ ((rr = 1 ∧ (0 < d → q2z p (lvl (fun x => rh 1 p ((σ r_Md_given) x)) n (sW n D d) (d).toNat (fun w => (σ r_Md_lawRow) (2048 * (σ r_Md_live) 0 + (k * 256 + w)))))) ∨ (rr = 0 ∧ ¬ (0 < d → q2z p (lvl (fun x => rh 1 p ((σ r_Md_given) x)) n (sW n D d) (d).toNat (fun w => (σ r_Md_lawRow) (2048 * (σ r_Md_live) 0 + (k * 256 + w)))))))) := by
  show en_wp k_X12_holdsPoint 0 [some (.inr (.inr (r_Md, 0))), some (.inl k), none, none, none, none, none, none] [] (srl σ []) (fun r σ' => ∃ (rr : Int), r = some (.inl rr) ∧ σ' = srl σ [] ∧ ((rr = 1 ∧ (0 < d → q2z p (lvl (fun x => rh 1 p ((σ r_Md_given) x)) n (sW n D d) (d).toNat (fun w => (σ r_Md_lawRow) (2048 * (σ r_Md_live) 0 + (k * 256 + w)))))) ∨ (rr = 0 ∧ ¬ (0 < d → q2z p (lvl (fun x => rh 1 p ((σ r_Md_given) x)) n (sW n D d) (d).toNat (fun w => (σ r_Md_lawRow) (2048 * (σ r_Md_live) 0 + (k * 256 + w))))))))
  have hI2 := hI
  obtain ⟨hO, hL, hn, hD, hp, hpw, hst⟩ := hI2
  obtain ⟨⟨hO1, hO2⟩, ⟨hO3, hO4⟩, hO5, hO6, hO7, hO8⟩ := id hO
  have hWd : 0 ≤ sW n D d ∧ sW n D d ≤ 256 := sW_b hO
  have L_23 : ∀ (N : Nat) (sum : Int) (w : Int), (0 ≤ w ∧ w ≤ sW n D d) → (0 ≤ sum ∧ sum < p ∧ (d = 0 → sum = 0)) → (mE p sum (sm (fun w => (fun w => σ r_Md_lawRow (256 * (8 * σ r_Md_live 0 + k) + w)) w * spr (σ r_Md_given) n d.toNat w) w.toNat)) → (sW n D d - w).toNat < N → en_wp k_X12_holdsPoint 23 [some (.inr (.inr (r_Md, 0))), some (.inl k), some (.inl (8 * σ r_Md_live 0 + k)), some (.inl d), some (.inl sum), some (.inl w), none, none] [] (srl σ []) (fun r σ' => ∃ (rr : Int), r = some (.inl rr) ∧ σ' = srl σ [] ∧ ((rr = 1 ∧ (0 < d → q2z p (lvl (fun x => rh 1 p ((σ r_Md_given) x)) n (sW n D d) (d).toNat (fun w => (σ r_Md_lawRow) (2048 * (σ r_Md_live) 0 + (k * 256 + w)))))) ∨ (rr = 0 ∧ ¬ (0 < d → q2z p (lvl (fun x => rh 1 p ((σ r_Md_given) x)) n (sW n D d) (d).toNat (fun w => (σ r_Md_lawRow) (2048 * (σ r_Md_live) 0 + (k * 256 + w)))))))) := by
    intro N
    induction N with
    | zero => intro sum w; intros; omega
    | succ N ih_23 =>
      intro sum w hw hs hS hN_23
      have L_74 : ∀ (N : Nat) (v : Int) (j : Int), (0 < d ∧ w < sW n D d) → (0 ≤ j ∧ j ≤ d) → (0 ≤ v ∧ v < 97) → (mE p v (σ r_Md_lawRow (256 * (8 * σ r_Md_live 0 + k) + w) * spr (σ r_Md_given) n j.toNat (w / sW n D (d - j)))) → (d - j).toNat < N → en_wp k_X12_holdsPoint 74 [some (.inr (.inr (r_Md, 0))), some (.inl k), some (.inl (8 * σ r_Md_live 0 + k)), some (.inl d), some (.inl sum), some (.inl w), some (.inl v), some (.inl j)] [] (srl σ []) (fun r σ' => ∃ (rr : Int), r = some (.inl rr) ∧ σ' = srl σ [] ∧ ((rr = 1 ∧ (0 < d → q2z p (lvl (fun x => rh 1 p ((σ r_Md_given) x)) n (sW n D d) (d).toNat (fun w => (σ r_Md_lawRow) (2048 * (σ r_Md_live) 0 + (k * 256 + w)))))) ∨ (rr = 0 ∧ ¬ (0 < d → q2z p (lvl (fun x => rh 1 p ((σ r_Md_given) x)) n (sW n D d) (d).toNat (fun w => (σ r_Md_lawRow) (2048 * (σ r_Md_live) 0 + (k * 256 + w)))))))) := by
        intro N
        induction N with
        | zero => intro v j; intros; omega
        | succ N ih_74 =>
          intro v j hw5 hj hv hV hN_74
          have hn0 := hl9.2 (by omega)
          refine wp_run 2 (pc' := 77) (ls' := [some (.inr (.inr (r_Md, 0))), some (.inl k), some (.inl (8 * σ r_Md_live 0 + k)), some (.inl d), some (.inl sum), some (.inl w), some (.inl v), some (.inl j)]) (st' := [.inl d, .inl j]) (σ' := srl σ []) rfl ?_
          refine wp_ic_ge rfl (by omega) (by omega) (fun h_1 => ?_) (fun h_1 => ?_)
          · show en_wp k_X12_holdsPoint 111 [some (.inr (.inr (r_Md, 0))), some (.inl k), some (.inl (8 * σ r_Md_live 0 + k)), some (.inl d), some (.inl sum), some (.inl w), some (.inl v), some (.inl j)] [] (srl σ []) _
            refine wp_run 4 (pc' := 117) (ls' := [some (.inr (.inr (r_Md, 0))), some (.inl k), some (.inl (8 * σ r_Md_live 0 + k)), some (.inl d), some (.inl sum), some (.inl w), some (.inl v), some (.inl j)]) (st' := [.inl (sum + v), .inr (.inr (r_Md, 0))]) (σ' := srl σ []) rfl ?_
            refine wp_i2l rfl (by omega) ?_
            show en_wp k_X12_holdsPoint 118 [some (.inr (.inr (r_Md, 0))), some (.inl k), some (.inl (8 * σ r_Md_live 0 + k)), some (.inl d), some (.inl sum), some (.inl w), some (.inl v), some (.inl j)] [.inr (.inl (sum + v)), .inr (.inr (r_Md, 0))] (srl σ []) _
            refine wp_fnv (v := .inl ((sum + v) % p)) rfl rfl rfl rfl (ct_X12_rest σ n D p (sum + v) hI (by omega)) ?_
            show en_wp k_X12_holdsPoint 121 [some (.inr (.inr (r_Md, 0))), some (.inl k), some (.inl (8 * σ r_Md_live 0 + k)), some (.inl d), some (.inl sum), some (.inl w), some (.inl v), some (.inl j)] [.inl ((sum + v) % p)] (srl σ []) _
            have q_2 : 0 ≤ (sum + v) % p ∧ (sum + v) % p < p := sR_lt hO.2.2.2
            refine wp_run 3 (pc' := 23) (ls' := [some (.inr (.inr (r_Md, 0))), some (.inl k), some (.inl (8 * σ r_Md_live 0 + k)), some (.inl d), some (.inl ((sum + v) % p)), some (.inl (w + 1)), some (.inl v), some (.inl j)]) (st' := []) (σ' := srl σ []) rfl ?_
            refine wp_sub (l := [some (.inr (.inr (r_Md, 0))), some (.inl k), some (.inl (8 * σ r_Md_live 0 + k)), some (.inl d), some (.inl ((sum + v) % p)), some (.inl (w + 1)), none, none]) (And.intro rfl (And.intro rfl (And.intro rfl (And.intro rfl (And.intro rfl (And.intro rfl trivial)))))) ?_
            exact ih_23 ((sum + v) % p) (w + 1) (by omega) ⟨Int.emod_nonneg _ (by omega), Int.emod_lt_of_pos _ (by omega), fun q => by omega⟩ (pt_add (D := D) (c := fun w => σ r_Md_lawRow (256 * (8 * σ r_Md_live 0 + k) + w)) (by omega) hw.1 (by omega) hS hV rfl) (by omega)
          · show en_wp k_X12_holdsPoint 80 [some (.inr (.inr (r_Md, 0))), some (.inl k), some (.inl (8 * σ r_Md_live 0 + k)), some (.inl d), some (.inl sum), some (.inl w), some (.inl v), some (.inl j)] [] (srl σ []) _
            refine wp_run 2 (pc' := 83) (ls' := [some (.inr (.inr (r_Md, 0))), some (.inl k), some (.inl (8 * σ r_Md_live 0 + k)), some (.inl d), some (.inl sum), some (.inl w), some (.inl v), some (.inl j)]) (st' := [.inl v, .inr (.inr (r_Md, 0))]) (σ' := srl σ []) rfl ?_
            refine wp_i2l rfl (by omega) ?_
            show en_wp k_X12_holdsPoint 84 [some (.inr (.inr (r_Md, 0))), some (.inl k), some (.inl (8 * σ r_Md_live 0 + k)), some (.inl d), some (.inl sum), some (.inl w), some (.inl v), some (.inl j)] [.inr (.inl v), .inr (.inr (r_Md, 0))] (srl σ []) _
            refine wp_run 6 (pc' := 94) (ls' := [some (.inr (.inr (r_Md, 0))), some (.inl k), some (.inl (8 * σ r_Md_live 0 + k)), some (.inl d), some (.inl sum), some (.inl w), some (.inl v), some (.inl j)]) (st' := [.inl j, .inl w, .inl d, .inr (.inr (r_Md, 0)), .inr (.inr (r_Md_given, 0)), .inr (.inl v), .inr (.inr (r_Md, 0))]) (σ' := srl σ []) rfl ?_
            refine wp_fnv (v := .inl (w / sW n D (d - 1 - j) % n)) rfl rfl rfl rfl (ct_X12_letterOf σ n D p d w j hI (by omega) (by omega) (by omega)) ?_
            show en_wp k_X12_holdsPoint 97 [some (.inr (.inr (r_Md, 0))), some (.inl k), some (.inl (8 * σ r_Md_live 0 + k)), some (.inl d), some (.inl sum), some (.inl w), some (.inl v), some (.inl j)] [.inl (w / sW n D (d - 1 - j) % n), .inr (.inr (r_Md_given, 0)), .inr (.inl v), .inr (.inr (r_Md, 0))] (srl σ []) _
            have hm9 := Int.emod_nonneg (w / sW n D (d - 1 - j)) (show n ≠ 0 by omega)
            have hm8 := Int.emod_lt_of_pos (w / sW n D (d - 1 - j)) (show 0 < n by omega)
            have hg9 := hgv (w / sW n D (d - 1 - j) % n)
            have hi6 := i64_p hv hg9
            have hi5 := hi6.1
            have hi4 := hi6.2
            refine wp_iald0 rfl rfl (by omega) ?_
            show en_wp k_X12_holdsPoint 98 [some (.inr (.inr (r_Md, 0))), some (.inl k), some (.inl (8 * σ r_Md_live 0 + k)), some (.inl d), some (.inl sum), some (.inl w), some (.inl v), some (.inl j)] [.inl (σ r_Md_given (w / sW n D (d - 1 - j) % n)), .inr (.inl v), .inr (.inr (r_Md, 0))] (srl σ []) _
            refine wp_i2l rfl (by omega) ?_
            show en_wp k_X12_holdsPoint 99 [some (.inr (.inr (r_Md, 0))), some (.inl k), some (.inl (8 * σ r_Md_live 0 + k)), some (.inl d), some (.inl sum), some (.inl w), some (.inl v), some (.inl j)] [.inr (.inl (σ r_Md_given (w / sW n D (d - 1 - j) % n))), .inr (.inl v), .inr (.inr (r_Md, 0))] (srl σ []) _
            refine wp_run 1 (pc' := 100) (ls' := [some (.inr (.inr (r_Md, 0))), some (.inl k), some (.inl (8 * σ r_Md_live 0 + k)), some (.inl d), some (.inl sum), some (.inl w), some (.inl v), some (.inl j)]) (st' := [.inr (.inl (v * (σ r_Md_given (w / sW n D (d - 1 - j) % n)))), .inr (.inr (r_Md, 0))]) (σ' := srl σ []) rfl ?_
            refine wp_fnv (v := .inl ((v * (σ r_Md_given (w / sW n D (d - 1 - j) % n))) % p)) rfl rfl rfl rfl (ct_X12_rest σ n D p (v * (σ r_Md_given (w / sW n D (d - 1 - j) % n))) hI (by omega)) ?_
            show en_wp k_X12_holdsPoint 103 [some (.inr (.inr (r_Md, 0))), some (.inl k), some (.inl (8 * σ r_Md_live 0 + k)), some (.inl d), some (.inl sum), some (.inl w), some (.inl v), some (.inl j)] [.inl ((v * (σ r_Md_given (w / sW n D (d - 1 - j) % n))) % p)] (srl σ []) _
            have q_3 : 0 ≤ (v * (σ r_Md_given (w / sW n D (d - 1 - j) % n))) % p ∧ (v * (σ r_Md_given (w / sW n D (d - 1 - j) % n))) % p < p := sR_lt hO.2.2.2
            refine wp_run 3 (pc' := 74) (ls' := [some (.inr (.inr (r_Md, 0))), some (.inl k), some (.inl (8 * σ r_Md_live 0 + k)), some (.inl d), some (.inl sum), some (.inl w), some (.inl ((v * (σ r_Md_given (w / sW n D (d - 1 - j) % n))) % p)), some (.inl (j + 1))]) (st' := []) (σ' := srl σ []) rfl ?_
            exact ih_74 ((v * (σ r_Md_given (w / sW n D (d - 1 - j) % n))) % p) (j + 1) (by omega) (by omega) (d_97 hO.2.2.2 _) (pt_mul hO1 ⟨hj.1, by omega⟩ hl9.1.2 hV rfl) (by omega)
      refine wp_run 3 (pc' := 27) (ls' := [some (.inr (.inr (r_Md, 0))), some (.inl k), some (.inl (8 * σ r_Md_live 0 + k)), some (.inl d), some (.inl sum), some (.inl w), none, none]) (st' := [.inl d, .inr (.inr (r_Md, 0)), .inl w]) (σ' := srl σ []) rfl ?_
      refine wp_fnv (v := .inl (sW n D d)) rfl rfl rfl rfl (ct_X12_wide σ n D p d hI (by omega)) ?_
      show en_wp k_X12_holdsPoint 30 [some (.inr (.inr (r_Md, 0))), some (.inl k), some (.inl (8 * σ r_Md_live 0 + k)), some (.inl d), some (.inl sum), some (.inl w), none, none] [.inl (sW n D d), .inl w] (srl σ []) _
      have q_4 : 0 ≤ sW n D d ∧ sW n D d ≤ 256 := sW_b hO
      refine wp_ic_ge rfl (by omega) (by omega) (fun h_5 => ?_) (fun h_5 => ?_)
      · show en_wp k_X12_holdsPoint 129 [some (.inr (.inr (r_Md, 0))), some (.inl k), some (.inl (8 * σ r_Md_live 0 + k)), some (.inl d), some (.inl sum), some (.inl w), none, none] [] (srl σ []) _
        refine wp_run 1 (pc' := 131) (ls' := [some (.inr (.inr (r_Md, 0))), some (.inl k), some (.inl (8 * σ r_Md_live 0 + k)), some (.inl d), some (.inl sum), some (.inl w), none, none]) (st' := [.inl sum]) (σ' := srl σ []) rfl ?_
        refine wp_if_ne rfl (by omega) (fun h_6 => ?_) (fun h_6 => ?_)
        · show en_wp k_X12_holdsPoint 138 [some (.inr (.inr (r_Md, 0))), some (.inl k), some (.inl (8 * σ r_Md_live 0 + k)), some (.inl d), some (.inl sum), some (.inl w), none, none] [] (srl σ []) _
          refine wp_run 1 (pc' := 139) (ls' := [some (.inr (.inr (r_Md, 0))), some (.inl k), some (.inl (8 * σ r_Md_live 0 + k)), some (.inl d), some (.inl sum), some (.inl w), none, none]) (st' := [.inl 0]) (σ' := srl σ []) rfl ?_
          exact wp_zret rfl (.inl rfl) ⟨0, rfl, srl_eq (l' := []) trivial trivial, (by rw [ra_eq]; first | exact .inl ⟨rfl, (pt_ret (g := σ r_Md_given) (c := fun w => σ r_Md_lawRow (256 * (8 * σ r_Md_live 0 + k) + w)) hl9.1.1 (by omega) ⟨hs.1, hs.2.1⟩ hS hs.2.2).mp (by assumption)⟩ | exact .inr ⟨rfl, fun q => absurd ((pt_ret (g := σ r_Md_given) (c := fun w => σ r_Md_lawRow (256 * (8 * σ r_Md_live 0 + k) + w)) hl9.1.1 (by omega) ⟨hs.1, hs.2.1⟩ hS hs.2.2).mpr q) (by assumption)⟩)⟩
        · show en_wp k_X12_holdsPoint 134 [some (.inr (.inr (r_Md, 0))), some (.inl k), some (.inl (8 * σ r_Md_live 0 + k)), some (.inl d), some (.inl sum), some (.inl w), none, none] [] (srl σ []) _
          refine wp_run 2 (pc' := 139) (ls' := [some (.inr (.inr (r_Md, 0))), some (.inl k), some (.inl (8 * σ r_Md_live 0 + k)), some (.inl d), some (.inl sum), some (.inl w), none, none]) (st' := [.inl 1]) (σ' := srl σ []) rfl ?_
          exact wp_zret rfl (.inr rfl) ⟨1, rfl, srl_eq (l' := []) trivial trivial, (by rw [ra_eq]; first | exact .inl ⟨rfl, (pt_ret (g := σ r_Md_given) (c := fun w => σ r_Md_lawRow (256 * (8 * σ r_Md_live 0 + k) + w)) hl9.1.1 (by omega) ⟨hs.1, hs.2.1⟩ hS hs.2.2).mp (by assumption)⟩ | exact .inr ⟨rfl, fun q => absurd ((pt_ret (g := σ r_Md_given) (c := fun w => σ r_Md_lawRow (256 * (8 * σ r_Md_live 0 + k) + w)) hl9.1.1 (by omega) ⟨hs.1, hs.2.1⟩ hS hs.2.2).mpr q) (by assumption)⟩)⟩
      · show en_wp k_X12_holdsPoint 33 [some (.inr (.inr (r_Md, 0))), some (.inl k), some (.inl (8 * σ r_Md_live 0 + k)), some (.inl d), some (.inl sum), some (.inl w), none, none] [] (srl σ []) _
        refine wp_run 1 (pc' := 34) (ls' := [some (.inr (.inr (r_Md, 0))), some (.inl k), some (.inl (8 * σ r_Md_live 0 + k)), some (.inl d), some (.inl sum), some (.inl w), none, none]) (st' := [.inl d]) (σ' := srl σ []) rfl ?_
        refine wp_if_le rfl (by omega) (fun h_7 => ?_) (fun h_7 => ?_)
        · show en_wp k_X12_holdsPoint 129 [some (.inr (.inr (r_Md, 0))), some (.inl k), some (.inl (8 * σ r_Md_live 0 + k)), some (.inl d), some (.inl sum), some (.inl w), none, none] [] (srl σ []) _
          refine wp_run 1 (pc' := 131) (ls' := [some (.inr (.inr (r_Md, 0))), some (.inl k), some (.inl (8 * σ r_Md_live 0 + k)), some (.inl d), some (.inl sum), some (.inl w), none, none]) (st' := [.inl sum]) (σ' := srl σ []) rfl ?_
          refine wp_if_ne rfl (by omega) (fun h_8 => ?_) (fun h_8 => ?_)
          · show en_wp k_X12_holdsPoint 138 [some (.inr (.inr (r_Md, 0))), some (.inl k), some (.inl (8 * σ r_Md_live 0 + k)), some (.inl d), some (.inl sum), some (.inl w), none, none] [] (srl σ []) _
            refine wp_run 1 (pc' := 139) (ls' := [some (.inr (.inr (r_Md, 0))), some (.inl k), some (.inl (8 * σ r_Md_live 0 + k)), some (.inl d), some (.inl sum), some (.inl w), none, none]) (st' := [.inl 0]) (σ' := srl σ []) rfl ?_
            exact wp_zret rfl (.inl rfl) ⟨0, rfl, srl_eq (l' := []) trivial trivial, (by rw [ra_eq]; first | exact .inl ⟨rfl, (pt_ret (g := σ r_Md_given) (c := fun w => σ r_Md_lawRow (256 * (8 * σ r_Md_live 0 + k) + w)) hl9.1.1 (by omega) ⟨hs.1, hs.2.1⟩ hS hs.2.2).mp (by assumption)⟩ | exact .inr ⟨rfl, fun q => absurd ((pt_ret (g := σ r_Md_given) (c := fun w => σ r_Md_lawRow (256 * (8 * σ r_Md_live 0 + k) + w)) hl9.1.1 (by omega) ⟨hs.1, hs.2.1⟩ hS hs.2.2).mpr q) (by assumption)⟩)⟩
          · show en_wp k_X12_holdsPoint 134 [some (.inr (.inr (r_Md, 0))), some (.inl k), some (.inl (8 * σ r_Md_live 0 + k)), some (.inl d), some (.inl sum), some (.inl w), none, none] [] (srl σ []) _
            refine wp_run 2 (pc' := 139) (ls' := [some (.inr (.inr (r_Md, 0))), some (.inl k), some (.inl (8 * σ r_Md_live 0 + k)), some (.inl d), some (.inl sum), some (.inl w), none, none]) (st' := [.inl 1]) (σ' := srl σ []) rfl ?_
            exact wp_zret rfl (.inr rfl) ⟨1, rfl, srl_eq (l' := []) trivial trivial, (by rw [ra_eq]; first | exact .inl ⟨rfl, (pt_ret (g := σ r_Md_given) (c := fun w => σ r_Md_lawRow (256 * (8 * σ r_Md_live 0 + k) + w)) hl9.1.1 (by omega) ⟨hs.1, hs.2.1⟩ hS hs.2.2).mp (by assumption)⟩ | exact .inr ⟨rfl, fun q => absurd ((pt_ret (g := σ r_Md_given) (c := fun w => σ r_Md_lawRow (256 * (8 * σ r_Md_live 0 + k) + w)) hl9.1.1 (by omega) ⟨hs.1, hs.2.1⟩ hS hs.2.2).mpr q) (by assumption)⟩)⟩
        · show en_wp k_X12_holdsPoint 37 [some (.inr (.inr (r_Md, 0))), some (.inl k), some (.inl (8 * σ r_Md_live 0 + k)), some (.inl d), some (.inl sum), some (.inl w), none, none] [] (srl σ []) _
          refine wp_run 7 (pc' := 49) (ls' := [some (.inr (.inr (r_Md, 0))), some (.inl k), some (.inl (8 * σ r_Md_live 0 + k)), some (.inl d), some (.inl sum), some (.inl w), none, none]) (st' := [.inl ((256 * (8 * σ r_Md_live 0 + k)) + w), .inr (.inr (r_Md_lawRow, 0))]) (σ' := srl σ []) rfl ?_
          refine wp_iald0 rfl rfl (by omega) ?_
          show en_wp k_X12_holdsPoint 50 [some (.inr (.inr (r_Md, 0))), some (.inl k), some (.inl (8 * σ r_Md_live 0 + k)), some (.inl d), some (.inl sum), some (.inl w), none, none] [.inl (σ r_Md_lawRow ((256 * (8 * σ r_Md_live 0 + k)) + w))] (srl σ []) _
          have hr9 := hlR (256 * (8 * σ r_Md_live 0 + k) + w)
          refine wp_if_ne rfl (by omega) (fun h_9 => ?_) (fun h_9 => ?_)
          · show en_wp k_X12_holdsPoint 56 [some (.inr (.inr (r_Md, 0))), some (.inl k), some (.inl (8 * σ r_Md_live 0 + k)), some (.inl d), some (.inl sum), some (.inl w), none, none] [] (srl σ []) _
            refine wp_run 7 (pc' := 68) (ls' := [some (.inr (.inr (r_Md, 0))), some (.inl k), some (.inl (8 * σ r_Md_live 0 + k)), some (.inl d), some (.inl sum), some (.inl w), none, none]) (st' := [.inl ((256 * (8 * σ r_Md_live 0 + k)) + w), .inr (.inr (r_Md_lawRow, 0))]) (σ' := srl σ []) rfl ?_
            refine wp_iald0 rfl rfl (by omega) ?_
            show en_wp k_X12_holdsPoint 69 [some (.inr (.inr (r_Md, 0))), some (.inl k), some (.inl (8 * σ r_Md_live 0 + k)), some (.inl d), some (.inl sum), some (.inl w), none, none] [.inl (σ r_Md_lawRow ((256 * (8 * σ r_Md_live 0 + k)) + w))] (srl σ []) _
            refine wp_run 3 (pc' := 74) (ls' := [some (.inr (.inr (r_Md, 0))), some (.inl k), some (.inl (8 * σ r_Md_live 0 + k)), some (.inl d), some (.inl sum), some (.inl w), some (.inl (σ r_Md_lawRow ((256 * (8 * σ r_Md_live 0 + k)) + w))), some (.inl 0)]) (st' := []) (σ' := srl σ []) rfl ?_
            exact L_74 _ (σ r_Md_lawRow ((256 * (8 * σ r_Md_live 0 + k)) + w)) 0 (by omega) (by omega) (hlR _) (mE_of (Int.mul_one _).symm) (Nat.lt_succ_self _)
          · show en_wp k_X12_holdsPoint 53 [some (.inr (.inr (r_Md, 0))), some (.inl k), some (.inl (8 * σ r_Md_live 0 + k)), some (.inl d), some (.inl sum), some (.inl w), none, none] [] (srl σ []) _
            refine wp_run 3 (pc' := 23) (ls' := [some (.inr (.inr (r_Md, 0))), some (.inl k), some (.inl (8 * σ r_Md_live 0 + k)), some (.inl d), some (.inl sum), some (.inl (w + 1)), none, none]) (st' := []) (σ' := srl σ []) rfl ?_
            exact ih_23 sum (w + 1) (by omega) (by omega) (pt_skip hw.1 hS (by assumption)) (by omega)
  refine wp_run 10 (pc' := 15) (ls' := [some (.inr (.inr (r_Md, 0))), some (.inl k), some (.inl ((8 * (σ r_Md_live 0)) + k)), none, none, none, none, none]) (st' := [.inl ((8 * (σ r_Md_live 0)) + k), .inr (.inr (r_Md_lawLength, 0))]) (σ' := srl σ []) rfl ?_
  refine wp_iald0 rfl rfl (by omega) ?_
  show en_wp k_X12_holdsPoint 16 [some (.inr (.inr (r_Md, 0))), some (.inl k), some (.inl ((8 * (σ r_Md_live 0)) + k)), none, none, none, none, none] [.inl (σ r_Md_lawLength ((8 * (σ r_Md_live 0)) + k))] (srl σ []) _
  rw [← hde]
  show en_wp k_X12_holdsPoint 16 [some (.inr (.inr (r_Md, 0))), some (.inl k), some (.inl ((8 * (σ r_Md_live 0)) + k)), none, none, none, none, none] [.inl d] (srl σ []) _
  refine wp_run 5 (pc' := 23) (ls' := [some (.inr (.inr (r_Md, 0))), some (.inl k), some (.inl ((8 * (σ r_Md_live 0)) + k)), some (.inl d), some (.inl 0), some (.inl 0), none, none]) (st' := []) (σ' := srl σ []) rfl ?_
  exact L_23 _ 0 0 (by omega) ⟨Int.le_refl 0, by omega, fun _ => rfl⟩ (mE_rfl p 0) (Nat.lt_succ_self _)
