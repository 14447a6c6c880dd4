/-! contracts of methods, walked (written by wip/whole/walk.py from the annotations ann_m4) -/
theorem ct_X12_joinsDual (σ : en_m) (n : Int) (D : Int) (p : Int) (V0 : (Int → Int) → Prop) (V : (Int → Int) → Prop) (T : (Int → Int) → Prop) (hI : mI σ n D p) (hd2 : 2 ≤ D) (hrs0 : (σ r_Md_rowStart) (9 * 0 + 2) = sQ n D 2) (hrs1 : (σ r_Md_rowStart) (9 * 1 + 2) = sQ n D 2) (hrow : R97 ((σ r_Md_row))) (hrows : R97 ((σ r_Md_rows))) (hlead : R01 ((σ r_Md_leads))) (gc0 : mD p (sW n D 2) V0 (fun k x => (σ r_Md_rows) (70000 * 0 + sQ n D 2 + k * sW n D 2 + x)) (fun x => (σ r_Md_leads) (400 * 0 + sS n D 2 + x))) (gc1 : mD p (sW n D 2) V (fun k x => (σ r_Md_rows) (70000 * 1 + sQ n D 2 + k * sW n D 2 + x)) (fun x => (σ r_Md_leads) (400 * 1 + sS n D 2 + x))) (gT : vSub p (sW n D 2) T) (gVT : ∀ v, V v → T v) (gTr : ∀ k r, 0 ≤ k → k < sW n D 2 → ¬ hasTop p (sW n D 2) V0 k → dRow p (sW n D 2) V0 k r → T r) : en_ct z_X12_joinsDual [.inr (.inr (r_Md, 0))] σ (fun r σ' => ∃ (f_Md_spare : Int → Int), ∃ (f_Md_row : Int → Int), ∃ (f_Md_rows : Int → Int), ∃ (f_Md_leads : Int → Int), r = none ∧ σ' = srl σ [(r_Md_spare, f_Md_spare), (r_Md_row, f_Md_row), (r_Md_rows, f_Md_rows), (r_Md_leads, f_Md_leads)] ∧ (∃ E, mD p (sW n D 2) E (fun k x => f_Md_rows (70000 * 1 + sQ n D 2 + k * sW n D 2 + x)) (fun x => f_Md_leads (400 * 1 + sS n D 2 + x)) ∧ (∀ v, V v → E v) ∧ (∀ v, E v → T v) ∧ ∀ k r, 0 ≤ k → k < sW n D 2 → ¬ hasTop p (sW n D 2) V0 k → dRow p (sW n D 2) V0 k r → E r) ∧ (∀ x, (x < 70000 * 1 + sQ n D 2 ∨ 70000 * 1 + sQ n D 2 + sW n D 2 * sW n D 2 ≤ x) → f_Md_rows x = (σ r_Md_rows) x) ∧ (∀ x, (x < 400 * 1 + sS n D 2 ∨ 400 * 1 + sS n D 2 + sW n D 2 ≤ x) → f_Md_leads x = (σ r_Md_leads) x) ∧ (R97 f_Md_row) ∧ (R97 f_Md_rows) ∧ (R01 f_Md_leads)) := by
  show en_wp k_X12_joinsDual 0 [some (.inr (.inr (r_Md, 0))), none, none, none] [] (srl σ []) (fun r σ' => ∃ (f_Md_spare : Int → Int), ∃ (f_Md_row : Int → Int), ∃ (f_Md_rows : Int → Int), ∃ (f_Md_leads : Int → Int), r = none ∧ σ' = srl σ [(r_Md_spare, f_Md_spare), (r_Md_row, f_Md_row), (r_Md_rows, f_Md_rows), (r_Md_leads, f_Md_leads)] ∧ (∃ E, mD p (sW n D 2) E (fun k x => f_Md_rows (70000 * 1 + sQ n D 2 + k * sW n D 2 + x)) (fun x => f_Md_leads (400 * 1 + sS n D 2 + x)) ∧ (∀ v, V v → E v) ∧ (∀ v, E v → T v) ∧ ∀ k r, 0 ≤ k → k < sW n D 2 → ¬ hasTop p (sW n D 2) V0 k → dRow p (sW n D 2) V0 k r → E r) ∧ (∀ x, (x < 70000 * 1 + sQ n D 2 ∨ 70000 * 1 + sQ n D 2 + sW n D 2 * sW n D 2 ≤ x) → f_Md_rows x = (σ r_Md_rows) x) ∧ (∀ x, (x < 400 * 1 + sS n D 2 ∨ 400 * 1 + sS n D 2 + sW n D 2 ≤ x) → f_Md_leads x = (σ r_Md_leads) x) ∧ (R97 f_Md_row) ∧ (R97 f_Md_rows) ∧ (R01 f_Md_leads))
  have hI2 := hI
  obtain ⟨hO, hL, hn, hD, hp, hpw, hst⟩ := hI2
  obtain ⟨⟨hO1, hO2⟩, ⟨hO3, hO4⟩, hO5, hO6, hO7, hO8⟩ := id hO
  have hWb := sW_b (k := 2) hO
  have hSb := sS_b (k := 2) hO
  have hQ0 := sQ_mono (n := n) (D := D) hO.1.1 (Int.le_refl 0) (show (0 : Int) ≤ 2 by omega)
  rw [sQ_0] at hQ0
  have L_8 : ∀ (N : Nat) (w : Int) (E : (Int → Int) → Prop) (S : Int → Int) (A : Int → Int) (Y : Int → Int) (Z : Int → Int), (0 ≤ w ∧ w ≤ sW n D 2) → (R97 A) → (mD p (sW n D 2) E (fun k x => Y (70000 * 1 + sQ n D 2 + k * sW n D 2 + x)) (fun x => Z (400 * 1 + sS n D 2 + x))) → (mD p (sW n D 2) V0 (fun k x => Y (70000 * 0 + sQ n D 2 + k * sW n D 2 + x)) (fun x => Z (400 * 0 + sS n D 2 + x))) → (∀ v, V v → E v) → (∀ v, E v → T v) → (∀ x, (x < 70000 * 1 + sQ n D 2 ∨ 70000 * 1 + sQ n D 2 + sW n D 2 * sW n D 2 ≤ x) → Y x = σ r_Md_rows x) → (∀ x, (x < 400 * 1 + sS n D 2 ∨ 400 * 1 + sS n D 2 + sW n D 2 ≤ x) → Z x = σ r_Md_leads x) → (R97 Y) → (R01 Z) → (∀ k r, 0 ≤ k → k < w → ¬ hasTop p (sW n D 2) V0 k → dRow p (sW n D 2) V0 k r → E r) → (sW n D 2 - w).toNat < N → en_wp k_X12_joinsDual 8 [some (.inr (.inr (r_Md, 0))), some (.inl (sW n D 2)), some (.inl w), none] [] (srl σ [(r_Md_spare, S), (r_Md_row, A), (r_Md_rows, Y), (r_Md_leads, Z)]) (fun r σ' => ∃ (f_Md_spare : Int → Int), ∃ (f_Md_row : Int → Int), ∃ (f_Md_rows : Int → Int), ∃ (f_Md_leads : Int → Int), r = none ∧ σ' = srl σ [(r_Md_spare, f_Md_spare), (r_Md_row, f_Md_row), (r_Md_rows, f_Md_rows), (r_Md_leads, f_Md_leads)] ∧ (∃ E, mD p (sW n D 2) E (fun k x => f_Md_rows (70000 * 1 + sQ n D 2 + k * sW n D 2 + x)) (fun x => f_Md_leads (400 * 1 + sS n D 2 + x)) ∧ (∀ v, V v → E v) ∧ (∀ v, E v → T v) ∧ ∀ k r, 0 ≤ k → k < sW n D 2 → ¬ hasTop p (sW n D 2) V0 k → dRow p (sW n D 2) V0 k r → E r) ∧ (∀ x, (x < 70000 * 1 + sQ n D 2 ∨ 70000 * 1 + sQ n D 2 + sW n D 2 * sW n D 2 ≤ x) → f_Md_rows x = (σ r_Md_rows) x) ∧ (∀ x, (x < 400 * 1 + sS n D 2 ∨ 400 * 1 + sS n D 2 + sW n D 2 ≤ x) → f_Md_leads x = (σ r_Md_leads) x) ∧ (R97 f_Md_row) ∧ (R97 f_Md_rows) ∧ (R01 f_Md_leads)) := by
    intro N
    induction N with
    | zero => intro w E S A Y Z; intros; omega
    | succ N ih_8 =>
      intro w E S A Y Z hw hA hC hC0 hVE hET hY2 hZ2 hY3 hZ3 hdone hN_8
      have L_62 : ∀ (N : Nat) (x : Int) (S : Int → Int) (B : Int → Int), (0 ≤ w ∧ w < sW n D 2) → (¬ hasTop p (sW n D 2) V0 w) → (0 ≤ x ∧ x ≤ sW n D 2) → (R97 B) → (∀ j, 0 ≤ j → j < sW n D 2 → 0 ≤ B j ∧ B j < p) → (djI p (sW n D 2) V0 w x B) → (sW n D 2 - x).toNat < N → en_wp k_X12_joinsDual 62 [some (.inr (.inr (r_Md, 0))), some (.inl (sW n D 2)), some (.inl w), some (.inl x)] [] (srl σ [(r_Md_spare, S), (r_Md_row, B), (r_Md_rows, Y), (r_Md_leads, Z)]) (fun r σ' => ∃ (f_Md_spare : Int → Int), ∃ (f_Md_row : Int → Int), ∃ (f_Md_rows : Int → Int), ∃ (f_Md_leads : Int → Int), r = none ∧ σ' = srl σ [(r_Md_spare, f_Md_spare), (r_Md_row, f_Md_row), (r_Md_rows, f_Md_rows), (r_Md_leads, f_Md_leads)] ∧ (∃ E, mD p (sW n D 2) E (fun k x => f_Md_rows (70000 * 1 + sQ n D 2 + k * sW n D 2 + x)) (fun x => f_Md_leads (400 * 1 + sS n D 2 + x)) ∧ (∀ v, V v → E v) ∧ (∀ v, E v → T v) ∧ ∀ k r, 0 ≤ k → k < sW n D 2 → ¬ hasTop p (sW n D 2) V0 k → dRow p (sW n D 2) V0 k r → E r) ∧ (∀ x, (x < 70000 * 1 + sQ n D 2 ∨ 70000 * 1 + sQ n D 2 + sW n D 2 * sW n D 2 ≤ x) → f_Md_rows x = (σ r_Md_rows) x) ∧ (∀ x, (x < 400 * 1 + sS n D 2 ∨ 400 * 1 + sS n D 2 + sW n D 2 ≤ x) → f_Md_leads x = (σ r_Md_leads) x) ∧ (R97 f_Md_row) ∧ (R97 f_Md_rows) ∧ (R01 f_Md_leads)) := by
        intro N
        induction N with
        | zero => intro x S B; intros; omega
        | succ N ih_62 =>
          intro x S B hww hnt hx hB97 hBp hBj hN_62
          refine wp_run 2 (pc' := 64) (ls' := [some (.inr (.inr (r_Md, 0))), some (.inl (sW n D 2)), some (.inl w), some (.inl x)]) (st' := [.inl (sW n D 2), .inl x]) (σ' := srl σ [(r_Md_spare, S), (r_Md_row, B), (r_Md_rows, Y), (r_Md_leads, Z)]) rfl ?_
          refine wp_ic_ge rfl (by omega) (by omega) (fun h_1 => ?_) (fun h_1 => ?_)
          · show en_wp k_X12_joinsDual 107 [some (.inr (.inr (r_Md, 0))), some (.inl (sW n D 2)), some (.inl w), some (.inl x)] [] (srl σ [(r_Md_spare, S), (r_Md_row, B), (r_Md_rows, Y), (r_Md_leads, Z)]) _
            refine wp_run 3 (pc' := 110) (ls' := [some (.inr (.inr (r_Md, 0))), some (.inl (sW n D 2)), some (.inl w), some (.inl x)]) (st' := [.inl 2, .inl 1, .inr (.inr (r_Md, 0))]) (σ' := srl σ [(r_Md_spare, S), (r_Md_row, B), (r_Md_rows, Y), (r_Md_leads, Z)]) rfl ?_
            have hdj := dj_row (mD_sub hC0) (by omega) hBj (by omega) hww
            have hrT : T B := gTr w B hww.1 hww.2 hnt hdj.1
            have hrE : ∀ r, dRow p (sW n D 2) V0 w r → vAdd E B r := fun r hr => vS_ext (vAdd_sub (mD_sub hC) _) (vAdd_new (mD_sub hC) _) (hdj.2 r hr)
            refine wp_callv rfl rfl rfl rfl (ct_X12_joins (srl σ [(r_Md_spare, S), (r_Md_row, B), (r_Md_rows, Y), (r_Md_leads, Z)]) n D p E 1 2 hI (by omega) (by omega) hrs1 hB97 hY3 hZ3 hBp hC) ?_
            rintro _ _ ⟨f_2, f_3, f_4, rfl, rfl, p_5, p_6, p_7, p_8, p_9, p_10⟩
            have p_5 : mD p (sW n D 2) (vAdd E (B)) (fun k x => f_3 (70000 * 1 + sQ n D 2 + k * sW n D 2 + x)) (fun x => f_4 (400 * 1 + sS n D 2 + x)) := p_5
            have p_6 : ∀ x, (x < 70000 * 1 + sQ n D 2 ∨ 70000 * 1 + sQ n D 2 + sW n D 2 * sW n D 2 ≤ x) → f_3 x = Y x := p_6
            have p_7 : ∀ x, (x < 400 * 1 + sS n D 2 ∨ 400 * 1 + sS n D 2 + sW n D 2 ≤ x) → f_4 x = Z x := p_7
            have p_8 : R97 f_2 := p_8
            have p_9 : R97 f_3 := p_9
            have p_10 : R01 f_4 := p_10
            refine wp_bk (l2 := [(r_Md_spare, S), (r_Md_row, f_2), (r_Md_rows, f_3), (r_Md_leads, f_4)]) rfl rfl ?_
            show en_wp k_X12_joinsDual 113 [some (.inr (.inr (r_Md, 0))), some (.inl (sW n D 2)), some (.inl w), some (.inl x)] [] (srl σ [(r_Md_spare, S), (r_Md_row, f_2), (r_Md_rows, f_3), (r_Md_leads, f_4)]) _
            have kk := (⟨p_5, p_6, p_7, p_8, p_9, p_10⟩ : _ ∧ _ ∧ _ ∧ _ ∧ _ ∧ _)
            refine wp_run 2 (pc' := 8) (ls' := [some (.inr (.inr (r_Md, 0))), some (.inl (sW n D 2)), some (.inl (w + 1)), some (.inl x)]) (st' := []) (σ' := srl σ [(r_Md_spare, S), (r_Md_row, f_2), (r_Md_rows, f_3), (r_Md_leads, f_4)]) rfl ?_
            refine wp_sub (l := [some (.inr (.inr (r_Md, 0))), some (.inl (sW n D 2)), some (.inl (w + 1)), none]) (And.intro rfl (And.intro rfl (And.intro rfl trivial))) ?_
            exact ih_8 (w + 1) (vAdd E B) S f_2 f_3 f_4 (by omega) kk.2.2.2.1 kk.1 (mD_ext hC0 (fun k j a1 a2 a3 a4 => kk.2.1 _ (.inl (by have := sQ_in hO (show (0 : Int) ≤ 2 by omega) ⟨a1, a2⟩ ⟨a3, a4⟩; omega))) (fun w a1 a2 => kk.2.2.1 _ (.inl (by have := sS_word hO (show (0 : Int) ≤ 2 by omega) ⟨a1, a2⟩; omega)))) (fun v h => vAdd_old (mD_sub hC) (hVE v h)) (fun v h => vAdd_le gT hET hrT h) (fun y h => (kk.2.1 y h).trans (hY2 y h)) (fun y h => (kk.2.2.1 y h).trans (hZ2 y h)) kk.2.2.2.2.1 kk.2.2.2.2.2 (fun k r h8 h9 hk hr => by rcases Int.lt_or_eq_of_le (show k ≤ w by omega) with h5 | h5 <;> first | exact vAdd_old (mD_sub hC) (hdone k r h8 h5 hk hr) | (rw [h5] at hr; exact hrE r hr)) (by omega)
          · show en_wp k_X12_joinsDual 67 [some (.inr (.inr (r_Md, 0))), some (.inl (sW n D 2)), some (.inl w), some (.inl x)] [] (srl σ [(r_Md_spare, S), (r_Md_row, B), (r_Md_rows, Y), (r_Md_leads, Z)]) _
            refine wp_run 4 (pc' := 73) (ls' := [some (.inr (.inr (r_Md, 0))), some (.inl (sW n D 2)), some (.inl w), some (.inl x)]) (st' := [.inl 2, .inr (.inr (r_Md, 0)), .inr (.inr (r_Md_leads, 0))]) (σ' := srl σ [(r_Md_spare, S), (r_Md_row, B), (r_Md_rows, Y), (r_Md_leads, Z)]) rfl ?_
            refine wp_fnv (v := .inl (sS n D 2)) rfl rfl rfl rfl (ct_X12_start (srl σ [(r_Md_spare, S), (r_Md_row, B), (r_Md_rows, Y), (r_Md_leads, Z)]) n D p 2 hI (by omega)) ?_
            show en_wp k_X12_joinsDual 76 [some (.inr (.inr (r_Md, 0))), some (.inl (sW n D 2)), some (.inl w), some (.inl x)] [.inl (sS n D 2), .inr (.inr (r_Md_leads, 0))] (srl σ [(r_Md_spare, S), (r_Md_row, B), (r_Md_rows, Y), (r_Md_leads, Z)]) _
            have q_11 : 0 ≤ sS n D 2 ∧ sS n D 2 ≤ 364 := sS_b hO
            refine wp_run 2 (pc' := 78) (ls' := [some (.inr (.inr (r_Md, 0))), some (.inl (sW n D 2)), some (.inl w), some (.inl x)]) (st' := [.inl ((sS n D 2) + x), .inr (.inr (r_Md_leads, 0))]) (σ' := srl σ [(r_Md_spare, S), (r_Md_row, B), (r_Md_rows, Y), (r_Md_leads, Z)]) rfl ?_
            have hsx := sS_word hO (show (0 : Int) ≤ 2 by omega) (show 0 ≤ x ∧ x < sW n D 2 by omega)
            have hz01 := hZ3 (sS n D 2 + x)
            have hzs : 400 * 0 + sS n D 2 + x = sS n D 2 + x := by omega
            refine wp_bald0 rfl (.inr rfl) (by omega) ?_
            show en_wp k_X12_joinsDual 79 [some (.inr (.inr (r_Md, 0))), some (.inl (sW n D 2)), some (.inl w), some (.inl x)] [.inl (Z ((sS n D 2) + x))] (srl σ [(r_Md_spare, S), (r_Md_row, B), (r_Md_rows, Y), (r_Md_leads, Z)]) _
            refine wp_if_eq rfl (by omega) (fun h_12 => ?_) (fun h_12 => ?_)
            · have hnx : ¬ hasTop p (sW n D 2) V0 x := fun h9 => by
                have h8 : Z (400 * 0 + sS n D 2 + x) = 1 := (mD_top hC0 (by omega) (by omega) hO.2.2.2).mp h9
                rw [hzs] at h8
                omega
              show en_wp k_X12_joinsDual 101 [some (.inr (.inr (r_Md, 0))), some (.inl (sW n D 2)), some (.inl w), some (.inl x)] [] (srl σ [(r_Md_spare, S), (r_Md_row, B), (r_Md_rows, Y), (r_Md_leads, Z)]) _
              refine wp_run 2 (pc' := 62) (ls' := [some (.inr (.inr (r_Md, 0))), some (.inl (sW n D 2)), some (.inl w), some (.inl (x + 1))]) (st' := []) (σ' := srl σ [(r_Md_spare, S), (r_Md_row, B), (r_Md_rows, Y), (r_Md_leads, Z)]) rfl ?_
              exact ih_62 (x + 1) S B (by omega) hnt (by omega) hB97 hBp (dj_n (mD_sub hC0) (by omega) hBj hnx (by omega) (by omega)) (by omega)
            · have htx : Z (400 * 0 + sS n D 2 + x) = 1 := by rw [hzs]; omega
              show en_wp k_X12_joinsDual 82 [some (.inr (.inr (r_Md, 0))), some (.inl (sW n D 2)), some (.inl w), some (.inl x)] [] (srl σ [(r_Md_spare, S), (r_Md_row, B), (r_Md_rows, Y), (r_Md_leads, Z)]) _
              refine wp_run 8 (pc' := 92) (ls' := [some (.inr (.inr (r_Md, 0))), some (.inl (sW n D 2)), some (.inl w), some (.inl x)]) (st' := [.inl w, .inl x, .inl 2, .inr (.inr (r_Md, 0)), .inr (.inr (r_Md, 0)), .inl x, .inr (.inr (r_Md_row, 0))]) (σ' := srl σ [(r_Md_spare, S), (r_Md_row, B), (r_Md_rows, Y), (r_Md_leads, Z)]) rfl ?_
              refine wp_callv rfl rfl rfl rfl (ct_X12_plainOf (srl σ [(r_Md_spare, S), (r_Md_row, B), (r_Md_rows, Y), (r_Md_leads, Z)]) n D p V0 2 x w hI (by omega) hrs0 hB97 hY3 hZ3 hC0 (by omega) htx (by omega)) ?_
              rintro _ _ ⟨f_13, f_14, r_15, rfl, rfl, p_16, p_17⟩
              have p_16 : f_14 = B := p_16
              have p_17 : ∃ X, isNF p (sW n D 2) V0 (fun j => if j = x then 0 else Y (70000 * 0 + sQ n D 2 + x * sW n D 2 + j)) X ∧ r_15 = X w := p_17
              refine wp_bk (l2 := [(r_Md_spare, f_13), (r_Md_row, f_14), (r_Md_rows, Y), (r_Md_leads, Z)]) rfl rfl ?_
              show en_wp k_X12_joinsDual 95 [some (.inr (.inr (r_Md, 0))), some (.inl (sW n D 2)), some (.inl w), some (.inl x)] [.inl r_15, .inr (.inr (r_Md, 0)), .inl x, .inr (.inr (r_Md_row, 0))] (srl σ [(r_Md_spare, f_13), (r_Md_row, f_14), (r_Md_rows, Y), (r_Md_leads, Z)]) _
              have kp := (⟨p_16, p_17⟩ : _ ∧ _)
              obtain ⟨kN, kX⟩ := id kp.2
              refine wp_run 1 (pc' := 96) (ls' := [some (.inr (.inr (r_Md, 0))), some (.inl (sW n D 2)), some (.inl w), some (.inl x)]) (st' := [.inl (-r_15), .inr (.inr (r_Md, 0)), .inl x, .inr (.inr (r_Md_row, 0))]) (σ' := srl σ [(r_Md_spare, f_13), (r_Md_row, f_14), (r_Md_rows, Y), (r_Md_leads, Z)]) rfl ?_
              have hrb := kX.1.2.1 w hww.1 hww.2
              rw [← kX.2] at hrb
              refine wp_i2l rfl (by omega) ?_
              show en_wp k_X12_joinsDual 97 [some (.inr (.inr (r_Md, 0))), some (.inl (sW n D 2)), some (.inl w), some (.inl x)] [.inr (.inl (-r_15)), .inr (.inr (r_Md, 0)), .inl x, .inr (.inr (r_Md_row, 0))] (srl σ [(r_Md_spare, f_13), (r_Md_row, f_14), (r_Md_rows, Y), (r_Md_leads, Z)]) _
              refine wp_fnv (v := .inl ((-r_15) % p)) rfl rfl rfl rfl (ct_X12_rest (srl σ [(r_Md_spare, f_13), (r_Md_row, f_14), (r_Md_rows, Y), (r_Md_leads, Z)]) n D p (-r_15) hI (by omega)) ?_
              show en_wp k_X12_joinsDual 100 [some (.inr (.inr (r_Md, 0))), some (.inl (sW n D 2)), some (.inl w), some (.inl x)] [.inl ((-r_15) % p), .inl x, .inr (.inr (r_Md_row, 0))] (srl σ [(r_Md_spare, f_13), (r_Md_row, f_14), (r_Md_rows, Y), (r_Md_leads, Z)]) _
              have q_18 : 0 ≤ (-r_15) % p ∧ (-r_15) % p < p := sR_lt hO.2.2.2
              refine wp_iast0 rfl rfl (by omega) (wp_wr (l2 := [(r_Md_spare, f_13), (r_Md_row, (up f_14 x ((-r_15) % p))), (r_Md_rows, Y), (r_Md_leads, Z)]) rfl ?_)
              show en_wp k_X12_joinsDual 101 [some (.inr (.inr (r_Md, 0))), some (.inl (sW n D 2)), some (.inl w), some (.inl x)] [] (srl σ [(r_Md_spare, f_13), (r_Md_row, (up f_14 x ((-r_15) % p))), (r_Md_rows, Y), (r_Md_leads, Z)]) _
              refine wp_run 2 (pc' := 62) (ls' := [some (.inr (.inr (r_Md, 0))), some (.inl (sW n D 2)), some (.inl w), some (.inl (x + 1))]) (st' := []) (σ' := srl σ [(r_Md_spare, f_13), (r_Md_row, (up f_14 x ((-r_15) % p))), (r_Md_rows, Y), (r_Md_leads, Z)]) rfl ?_
              exact ih_62 (x + 1) f_13 (up f_14 x ((-r_15) % p)) (by omega) hnt (by omega) (by rw [kp.1]; exact R97_up hB97 (by omega)) (fun j h8 h9 => by rw [kp.1]; exact up_r (hBp j h8 h9) (by omega)) (by rw [kp.1]; exact dj_l (mD_sub hC0) (by omega) hBj (by omega) (by omega) (mD_row hC0 (by omega) (by omega) htx) (hC0.2.1 x (by omega) (by omega) htx) kX.1 kX.2) (by omega)
      have L_33 : ∀ (N : Nat) (k : Int) (B : Int → Int), (0 ≤ w ∧ w < sW n D 2) → (¬ hasTop p (sW n D 2) V0 w) → (0 ≤ k ∧ k ≤ sW n D 2) → (B = seg A 0 k (fun j => if j = w then 1 else 0)) → (sW n D 2 - k).toNat < N → en_wp k_X12_joinsDual 33 [some (.inr (.inr (r_Md, 0))), some (.inl (sW n D 2)), some (.inl w), some (.inl k)] [] (srl σ [(r_Md_spare, S), (r_Md_row, B), (r_Md_rows, Y), (r_Md_leads, Z)]) (fun r σ' => ∃ (f_Md_spare : Int → Int), ∃ (f_Md_row : Int → Int), ∃ (f_Md_rows : Int → Int), ∃ (f_Md_leads : Int → Int), r = none ∧ σ' = srl σ [(r_Md_spare, f_Md_spare), (r_Md_row, f_Md_row), (r_Md_rows, f_Md_rows), (r_Md_leads, f_Md_leads)] ∧ (∃ E, mD p (sW n D 2) E (fun k x => f_Md_rows (70000 * 1 + sQ n D 2 + k * sW n D 2 + x)) (fun x => f_Md_leads (400 * 1 + sS n D 2 + x)) ∧ (∀ v, V v → E v) ∧ (∀ v, E v → T v) ∧ ∀ k r, 0 ≤ k → k < sW n D 2 → ¬ hasTop p (sW n D 2) V0 k → dRow p (sW n D 2) V0 k r → E r) ∧ (∀ x, (x < 70000 * 1 + sQ n D 2 ∨ 70000 * 1 + sQ n D 2 + sW n D 2 * sW n D 2 ≤ x) → f_Md_rows x = (σ r_Md_rows) x) ∧ (∀ x, (x < 400 * 1 + sS n D 2 ∨ 400 * 1 + sS n D 2 + sW n D 2 ≤ x) → f_Md_leads x = (σ r_Md_leads) x) ∧ (R97 f_Md_row) ∧ (R97 f_Md_rows) ∧ (R01 f_Md_leads)) := by
        intro N
        induction N with
        | zero => intro k B; intros; omega
        | succ N ih_33 =>
          intro k B hww hnt hk hB hN_33
          refine wp_run 2 (pc' := 35) (ls' := [some (.inr (.inr (r_Md, 0))), some (.inl (sW n D 2)), some (.inl w), some (.inl k)]) (st' := [.inl (sW n D 2), .inl k]) (σ' := srl σ [(r_Md_spare, S), (r_Md_row, B), (r_Md_rows, Y), (r_Md_leads, Z)]) rfl ?_
          refine wp_ic_ge rfl (by omega) (by omega) (fun h_19 => ?_) (fun h_19 => ?_)
          · show en_wp k_X12_joinsDual 60 [some (.inr (.inr (r_Md, 0))), some (.inl (sW n D 2)), some (.inl w), some (.inl k)] [] (srl σ [(r_Md_spare, S), (r_Md_row, B), (r_Md_rows, Y), (r_Md_leads, Z)]) _
            refine wp_run 2 (pc' := 62) (ls' := [some (.inr (.inr (r_Md, 0))), some (.inl (sW n D 2)), some (.inl w), some (.inl 0)]) (st' := []) (σ' := srl σ [(r_Md_spare, S), (r_Md_row, B), (r_Md_rows, Y), (r_Md_leads, Z)]) rfl ?_
            exact L_62 _ 0 S B (by omega) hnt (by omega) (by rw [hB]; exact R97_seg hA (fun j _ _ => by split <;> omega)) (fun j h8 h9 => by rw [hB, seg_in0 (by omega)]; split <;> omega) (dj_0 (by rw [hB, show k = sW n D 2 by omega])) (Nat.lt_succ_self _)
          · show en_wp k_X12_joinsDual 38 [some (.inr (.inr (r_Md, 0))), some (.inl (sW n D 2)), some (.inl w), some (.inl k)] [] (srl σ [(r_Md_spare, S), (r_Md_row, B), (r_Md_rows, Y), (r_Md_leads, Z)]) _
            refine wp_run 5 (pc' := 45) (ls' := [some (.inr (.inr (r_Md, 0))), some (.inl (sW n D 2)), some (.inl w), some (.inl k)]) (st' := [.inl w, .inl k, .inl k, .inr (.inr (r_Md_row, 0))]) (σ' := srl σ [(r_Md_spare, S), (r_Md_row, B), (r_Md_rows, Y), (r_Md_leads, Z)]) rfl ?_
            refine wp_ic_ne rfl (by omega) (by omega) (fun h_20 => ?_) (fun h_20 => ?_)
            · show en_wp k_X12_joinsDual 52 [some (.inr (.inr (r_Md, 0))), some (.inl (sW n D 2)), some (.inl w), some (.inl k)] [.inl k, .inr (.inr (r_Md_row, 0))] (srl σ [(r_Md_spare, S), (r_Md_row, B), (r_Md_rows, Y), (r_Md_leads, Z)]) _
              refine wp_run 1 (pc' := 53) (ls' := [some (.inr (.inr (r_Md, 0))), some (.inl (sW n D 2)), some (.inl w), some (.inl k)]) (st' := [.inl 0, .inl k, .inr (.inr (r_Md_row, 0))]) (σ' := srl σ [(r_Md_spare, S), (r_Md_row, B), (r_Md_rows, Y), (r_Md_leads, Z)]) rfl ?_
              refine wp_iast0 rfl rfl (by omega) (wp_wr (l2 := [(r_Md_spare, S), (r_Md_row, (up B k 0)), (r_Md_rows, Y), (r_Md_leads, Z)]) rfl ?_)
              show en_wp k_X12_joinsDual 54 [some (.inr (.inr (r_Md, 0))), some (.inl (sW n D 2)), some (.inl w), some (.inl k)] [] (srl σ [(r_Md_spare, S), (r_Md_row, (up B k 0)), (r_Md_rows, Y), (r_Md_leads, Z)]) _
              refine wp_run 2 (pc' := 33) (ls' := [some (.inr (.inr (r_Md, 0))), some (.inl (sW n D 2)), some (.inl w), some (.inl (k + 1))]) (st' := []) (σ' := srl σ [(r_Md_spare, S), (r_Md_row, (up B k 0)), (r_Md_rows, Y), (r_Md_leads, Z)]) rfl ?_
              exact ih_33 (k + 1) (up B k 0) (by omega) hnt (by omega) (by rw [hB]; exact seg_up0 hk.1 (by first | rw [if_pos (by assumption)] | rw [if_neg (by assumption)])) (by omega)
            · show en_wp k_X12_joinsDual 48 [some (.inr (.inr (r_Md, 0))), some (.inl (sW n D 2)), some (.inl w), some (.inl k)] [.inl k, .inr (.inr (r_Md_row, 0))] (srl σ [(r_Md_spare, S), (r_Md_row, B), (r_Md_rows, Y), (r_Md_leads, Z)]) _
              refine wp_run 2 (pc' := 53) (ls' := [some (.inr (.inr (r_Md, 0))), some (.inl (sW n D 2)), some (.inl w), some (.inl k)]) (st' := [.inl 1, .inl k, .inr (.inr (r_Md_row, 0))]) (σ' := srl σ [(r_Md_spare, S), (r_Md_row, B), (r_Md_rows, Y), (r_Md_leads, Z)]) rfl ?_
              refine wp_iast0 rfl rfl (by omega) (wp_wr (l2 := [(r_Md_spare, S), (r_Md_row, (up B k 1)), (r_Md_rows, Y), (r_Md_leads, Z)]) rfl ?_)
              show en_wp k_X12_joinsDual 54 [some (.inr (.inr (r_Md, 0))), some (.inl (sW n D 2)), some (.inl w), some (.inl k)] [] (srl σ [(r_Md_spare, S), (r_Md_row, (up B k 1)), (r_Md_rows, Y), (r_Md_leads, Z)]) _
              refine wp_run 2 (pc' := 33) (ls' := [some (.inr (.inr (r_Md, 0))), some (.inl (sW n D 2)), some (.inl w), some (.inl (k + 1))]) (st' := []) (σ' := srl σ [(r_Md_spare, S), (r_Md_row, (up B k 1)), (r_Md_rows, Y), (r_Md_leads, Z)]) rfl ?_
              exact ih_33 (k + 1) (up B k 1) (by omega) hnt (by omega) (by rw [hB]; exact seg_up0 hk.1 (by first | rw [if_pos (by assumption)] | rw [if_neg (by assumption)])) (by omega)
      refine wp_run 2 (pc' := 10) (ls' := [some (.inr (.inr (r_Md, 0))), some (.inl (sW n D 2)), some (.inl w), none]) (st' := [.inl (sW n D 2), .inl w]) (σ' := srl σ [(r_Md_spare, S), (r_Md_row, A), (r_Md_rows, Y), (r_Md_leads, Z)]) rfl ?_
      refine wp_ic_ge rfl (by omega) (by omega) (fun h_21 => ?_) (fun h_21 => ?_)
      · show en_wp k_X12_joinsDual 119 [some (.inr (.inr (r_Md, 0))), some (.inl (sW n D 2)), some (.inl w), none] [] (srl σ [(r_Md_spare, S), (r_Md_row, A), (r_Md_rows, Y), (r_Md_leads, Z)]) _
        exact wp_vret rfl ⟨S, A, Y, Z, rfl, srl_eq (l' := [(r_Md_spare, S), (r_Md_row, A), (r_Md_rows, Y), (r_Md_leads, Z)]) (And.intro rfl (And.intro rfl (And.intro rfl (And.intro rfl trivial)))) (And.intro rfl (And.intro rfl (And.intro rfl (And.intro rfl trivial)))), ⟨⟨E, hC, hVE, hET, fun k r h8 h9 => hdone k r h8 (by omega)⟩, hY2, hZ2, hA, hY3, hZ3⟩⟩
      · show en_wp k_X12_joinsDual 13 [some (.inr (.inr (r_Md, 0))), some (.inl (sW n D 2)), some (.inl w), none] [] (srl σ [(r_Md_spare, S), (r_Md_row, A), (r_Md_rows, Y), (r_Md_leads, Z)]) _
        refine wp_run 4 (pc' := 19) (ls' := [some (.inr (.inr (r_Md, 0))), some (.inl (sW n D 2)), some (.inl w), none]) (st' := [.inl 2, .inr (.inr (r_Md, 0)), .inr (.inr (r_Md_leads, 0))]) (σ' := srl σ [(r_Md_spare, S), (r_Md_row, A), (r_Md_rows, Y), (r_Md_leads, Z)]) rfl ?_
        refine wp_fnv (v := .inl (sS n D 2)) rfl rfl rfl rfl (ct_X12_start (srl σ [(r_Md_spare, S), (r_Md_row, A), (r_Md_rows, Y), (r_Md_leads, Z)]) n D p 2 hI (by omega)) ?_
        show en_wp k_X12_joinsDual 22 [some (.inr (.inr (r_Md, 0))), some (.inl (sW n D 2)), some (.inl w), none] [.inl (sS n D 2), .inr (.inr (r_Md_leads, 0))] (srl σ [(r_Md_spare, S), (r_Md_row, A), (r_Md_rows, Y), (r_Md_leads, Z)]) _
        have q_22 : 0 ≤ sS n D 2 ∧ sS n D 2 ≤ 364 := sS_b hO
        refine wp_run 2 (pc' := 24) (ls' := [some (.inr (.inr (r_Md, 0))), some (.inl (sW n D 2)), some (.inl w), none]) (st' := [.inl ((sS n D 2) + w), .inr (.inr (r_Md_leads, 0))]) (σ' := srl σ [(r_Md_spare, S), (r_Md_row, A), (r_Md_rows, Y), (r_Md_leads, Z)]) rfl ?_
        have hsw := sS_word hO (show (0 : Int) ≤ 2 by omega) (show 0 ≤ w ∧ w < sW n D 2 by omega)
        have hz01 := hZ3 (sS n D 2 + w)
        have hzs : 400 * 0 + sS n D 2 + w = sS n D 2 + w := by omega
        refine wp_bald0 rfl (.inr rfl) (by omega) ?_
        show en_wp k_X12_joinsDual 25 [some (.inr (.inr (r_Md, 0))), some (.inl (sW n D 2)), some (.inl w), none] [.inl (Z ((sS n D 2) + w))] (srl σ [(r_Md_spare, S), (r_Md_row, A), (r_Md_rows, Y), (r_Md_leads, Z)]) _
        refine wp_if_eq rfl (by omega) (fun h_23 => ?_) (fun h_23 => ?_)
        · have hnt : ¬ hasTop p (sW n D 2) V0 w := fun h9 => by
            have h8 : Z (400 * 0 + sS n D 2 + w) = 1 := (mD_top hC0 (by omega) (by omega) hO.2.2.2).mp h9
            rw [hzs] at h8
            omega
          show en_wp k_X12_joinsDual 31 [some (.inr (.inr (r_Md, 0))), some (.inl (sW n D 2)), some (.inl w), none] [] (srl σ [(r_Md_spare, S), (r_Md_row, A), (r_Md_rows, Y), (r_Md_leads, Z)]) _
          refine wp_run 2 (pc' := 33) (ls' := [some (.inr (.inr (r_Md, 0))), some (.inl (sW n D 2)), some (.inl w), some (.inl 0)]) (st' := []) (σ' := srl σ [(r_Md_spare, S), (r_Md_row, A), (r_Md_rows, Y), (r_Md_leads, Z)]) rfl ?_
          exact L_33 _ 0 A (by omega) hnt (by omega) (seg_0 _ _ _).symm (Nat.lt_succ_self _)
        · have htw : hasTop p (sW n D 2) V0 w := (mD_top hC0 (by omega) (by omega) hO.2.2.2).mpr (by show Z (400 * 0 + sS n D 2 + w) = 1; rw [hzs]; omega)
          show en_wp k_X12_joinsDual 28 [some (.inr (.inr (r_Md, 0))), some (.inl (sW n D 2)), some (.inl w), none] [] (srl σ [(r_Md_spare, S), (r_Md_row, A), (r_Md_rows, Y), (r_Md_leads, Z)]) _
          refine wp_run 3 (pc' := 8) (ls' := [some (.inr (.inr (r_Md, 0))), some (.inl (sW n D 2)), some (.inl (w + 1)), none]) (st' := []) (σ' := srl σ [(r_Md_spare, S), (r_Md_row, A), (r_Md_rows, Y), (r_Md_leads, Z)]) rfl ?_
          exact ih_8 (w + 1) E S A Y Z (by omega) hA hC hC0 hVE hET hY2 hZ2 hY3 hZ3 (fun k r h8 h9 hk hr => by rcases Int.lt_or_eq_of_le (show k ≤ w by omega) with h5 | h5 <;> first | exact hdone k r h8 h5 hk hr | (rw [h5] at hk; exact absurd htw hk)) (by omega)
  refine wp_run 2 (pc' := 2) (ls' := [some (.inr (.inr (r_Md, 0))), none, none, none]) (st' := [.inl 2, .inr (.inr (r_Md, 0))]) (σ' := srl σ []) rfl ?_
  refine wp_fnv (v := .inl (sW n D 2)) rfl rfl rfl rfl (ct_X12_wide σ n D p 2 hI (by omega)) ?_
  show en_wp k_X12_joinsDual 5 [some (.inr (.inr (r_Md, 0))), none, none, none] [.inl (sW n D 2)] (srl σ []) _
  have q_24 : 0 ≤ sW n D 2 ∧ sW n D 2 ≤ 256 := sW_b hO
  refine wp_run 3 (pc' := 8) (ls' := [some (.inr (.inr (r_Md, 0))), some (.inl (sW n D 2)), some (.inl 0), none]) (st' := []) (σ' := srl σ []) rfl ?_
  refine wp_mem (srl_eq (l' := [(r_Md_spare, (σ r_Md_spare)), (r_Md_row, (σ r_Md_row)), (r_Md_rows, (σ r_Md_rows)), (r_Md_leads, (σ r_Md_leads))]) trivial (And.intro rfl (And.intro rfl (And.intro rfl (And.intro rfl trivial))))) ?_
  exact L_8 _ 0 V (σ r_Md_spare) (σ r_Md_row) (σ r_Md_rows) (σ r_Md_leads) (by omega) hrow gc1 gc0 (fun _ h => h) gVT (fun _ _ => rfl) (fun _ _ => rfl) hrows hlead (fun k r h8 h9 => by omega) (Nat.lt_succ_self _)
