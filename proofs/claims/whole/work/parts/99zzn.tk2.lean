/-! contracts of methods, walked (written by wip/whole/walk.py from the annotations ann_m59) -/
theorem ct_X8_byteAt_p (σ : en_m) (k : Int) (h1 : 0 ≤ k ∧ k < (σ r_Tape_filled) 0) (h2 : 0 ≤ (σ r_Tape_filled) 0 ∧ (σ r_Tape_filled) 0 ≤ 2000) : en_fn z_X8_byteAt [.inr (.inr (r_Tape, 0)), .inl k] σ (.inl (en_iand ((σ r_Tape_bytes) k) 255)) := by
  show en_wp k_X8_byteAt 0 [some (.inr (.inr (r_Tape, 0))), some (.inl k)] [] (srl σ []) (fun r σ' => r = some (.inl (en_iand ((σ r_Tape_bytes) k) 255)) ∧ σ' = σ)
  refine wp_run 1 (pc' := 1) (ls' := [some (.inr (.inr (r_Tape, 0))), some (.inl k)]) (st' := [.inl k]) (σ' := srl σ []) rfl ?_
  refine wp_if_lt rfl (by omega) (fun h_1 => ?_) (fun h_1 => ?_)
  · exfalso; omega
  · show en_wp k_X8_byteAt 4 [some (.inr (.inr (r_Tape, 0))), some (.inl k)] [] (srl σ []) _
    refine wp_run 3 (pc' := 9) (ls' := [some (.inr (.inr (r_Tape, 0))), some (.inl k)]) (st' := [.inl (σ r_Tape_filled 0), .inl k]) (σ' := srl σ []) rfl ?_
    refine wp_ic_ge rfl (by omega) (by omega) (fun h_2 => ?_) (fun h_2 => ?_)
    · exfalso; omega
    · show en_wp k_X8_byteAt 12 [some (.inr (.inr (r_Tape, 0))), some (.inl k)] [] (srl σ []) _
      refine wp_run 3 (pc' := 17) (ls' := [some (.inr (.inr (r_Tape, 0))), some (.inl k)]) (st' := [.inl k, .inr (.inr (r_Tape_bytes, 0))]) (σ' := srl σ []) rfl ?_
      refine wp_bald0 rfl (.inl rfl) (by omega) ?_
      show en_wp k_X8_byteAt 18 [some (.inr (.inr (r_Tape, 0))), some (.inl k)] [.inl (σ r_Tape_bytes k)] (srl σ []) _
      refine wp_run 3 (pc' := 26) (ls' := [some (.inr (.inr (r_Tape, 0))), some (.inl k)]) (st' := [.inl (en_iand (σ r_Tape_bytes k) 255)]) (σ' := srl σ []) rfl ?_
      exact wp_iret rfl ⟨rfl, rfl⟩
theorem ct_X10_afterBlanks_Tape (σ : en_m) (fr : Int) (hN : 0 ≤ (σ r_Tape_filled) 0 ∧ (σ r_Tape_filled) 0 ≤ 2000) (hf : 0 ≤ fr ∧ fr ≤ (σ r_Tape_filled) 0) : en_ct z_X10_afterBlanks [.inr (.inr (r_Tape, 0)), .inl fr] σ (fun r σ' => ∃ (rr : Int), r = some (.inl rr) ∧ σ' = srl σ [] ∧ (rr = sk (fun x => en_iand ((σ r_Tape_bytes) x) 255) ((σ r_Tape_filled) 0) fr)) := by
  show en_wp k_X10_afterBlanks 0 [some (.inr (.inr (r_Tape, 0))), some (.inl fr), none, none, none] [] (srl σ []) (fun r σ' => ∃ (rr : Int), r = some (.inl rr) ∧ σ' = srl σ [] ∧ (rr = sk (fun x => en_iand ((σ r_Tape_bytes) x) 255) ((σ r_Tape_filled) 0) fr))
  have L_7 : ∀ (N : Nat) (i : Int), (fr ≤ i ∧ i ≤ σ r_Tape_filled 0) → (∀ j, fr ≤ j → j < i → isBl ((fun x => en_iand (σ r_Tape_bytes x) 255) j)) → (σ r_Tape_filled 0 - i).toNat < N → en_wp k_X10_afterBlanks 7 [some (.inr (.inr (r_Tape, 0))), some (.inl fr), some (.inl (σ r_Tape_filled 0)), some (.inl i), none] [] (srl σ []) (fun r σ' => ∃ (rr : Int), r = some (.inl rr) ∧ σ' = srl σ [] ∧ (rr = sk (fun x => en_iand ((σ r_Tape_bytes) x) 255) ((σ r_Tape_filled) 0) fr)) := by
    intro N
    induction N with
    | zero => intro i; intros; omega
    | succ N ih_7 =>
      intro i hi hb hN_7
      refine wp_run 2 (pc' := 9) (ls' := [some (.inr (.inr (r_Tape, 0))), some (.inl fr), some (.inl (σ r_Tape_filled 0)), some (.inl i), none]) (st' := [.inl (σ r_Tape_filled 0), .inl i]) (σ' := srl σ []) rfl ?_
      refine wp_ic_ge rfl (by omega) (by omega) (fun h_1 => ?_) (fun h_1 => ?_)
      · show en_wp k_X10_afterBlanks 55 [some (.inr (.inr (r_Tape, 0))), some (.inl fr), some (.inl (σ r_Tape_filled 0)), some (.inl i), none] [] (srl σ []) _
        refine wp_run 1 (pc' := 56) (ls' := [some (.inr (.inr (r_Tape, 0))), some (.inl fr), some (.inl (σ r_Tape_filled 0)), some (.inl i), none]) (st' := [.inl (σ r_Tape_filled 0)]) (σ' := srl σ []) rfl ?_
        exact wp_iret rfl ⟨(σ r_Tape_filled 0), rfl, srl_eq (l' := []) trivial trivial, (rn_eq hf.2 (Int.le_refl _) (fun j a b => hb j a (by omega)) (fun q => absurd q (by omega))).symm⟩
      · show en_wp k_X10_afterBlanks 12 [some (.inr (.inr (r_Tape, 0))), some (.inl fr), some (.inl (σ r_Tape_filled 0)), some (.inl i), none] [] (srl σ []) _
        refine wp_run 2 (pc' := 14) (ls' := [some (.inr (.inr (r_Tape, 0))), some (.inl fr), some (.inl (σ r_Tape_filled 0)), some (.inl i), none]) (st' := [.inl i, .inr (.inr (r_Tape, 0))]) (σ' := srl σ []) rfl ?_
        refine wp_fnv (v := .inl (en_iand ((σ r_Tape_bytes) i) 255)) rfl rfl rfl rfl (ct_X8_byteAt_p σ i (by omega) (by omega)) ?_
        show en_wp k_X10_afterBlanks 17 [some (.inr (.inr (r_Tape, 0))), some (.inl fr), some (.inl (σ r_Tape_filled 0)), some (.inl i), none] [.inl (en_iand ((σ r_Tape_bytes) i) 255)] (srl σ []) _
        have q_2 : 0 ≤ en_iand ((σ r_Tape_bytes) i) 255 ∧ en_iand ((σ r_Tape_bytes) i) 255 ≤ 255 := (ia_255 _)
        refine wp_run 3 (pc' := 23) (ls' := [some (.inr (.inr (r_Tape, 0))), some (.inl fr), some (.inl (σ r_Tape_filled 0)), some (.inl i), some (.inl (en_iand ((σ r_Tape_bytes) i) 255))]) (st' := [.inl 9, .inl (en_iand ((σ r_Tape_bytes) i) 255)]) (σ' := srl σ []) rfl ?_
        refine wp_ic_eq rfl (by omega) (by omega) (fun h_3 => ?_) (fun h_3 => ?_)
        · show en_wp k_X10_afterBlanks 49 [some (.inr (.inr (r_Tape, 0))), some (.inl fr), some (.inl (σ r_Tape_filled 0)), some (.inl i), some (.inl (en_iand ((σ r_Tape_bytes) i) 255))] [] (srl σ []) _
          refine wp_run 2 (pc' := 7) (ls' := [some (.inr (.inr (r_Tape, 0))), some (.inl fr), some (.inl (σ r_Tape_filled 0)), some (.inl (i + 1)), some (.inl (en_iand ((σ r_Tape_bytes) i) 255))]) (st' := []) (σ' := srl σ []) rfl ?_
          refine wp_sub (l := [some (.inr (.inr (r_Tape, 0))), some (.inl fr), some (.inl (σ r_Tape_filled 0)), some (.inl (i + 1)), none]) (And.intro rfl (And.intro rfl (And.intro rfl (And.intro rfl trivial)))) ?_
          exact ih_7 (i + 1) (by omega) (fun j a b => by by_cases g9 : j = i; rw [g9]; show isBl (en_iand (σ r_Tape_bytes i) 255); unfold isBl; omega; exact hb j a (by omega)) (by omega)
        · show en_wp k_X10_afterBlanks 26 [some (.inr (.inr (r_Tape, 0))), some (.inl fr), some (.inl (σ r_Tape_filled 0)), some (.inl i), some (.inl (en_iand ((σ r_Tape_bytes) i) 255))] [] (srl σ []) _
          refine wp_run 2 (pc' := 30) (ls' := [some (.inr (.inr (r_Tape, 0))), some (.inl fr), some (.inl (σ r_Tape_filled 0)), some (.inl i), some (.inl (en_iand ((σ r_Tape_bytes) i) 255))]) (st' := [.inl 10, .inl (en_iand ((σ r_Tape_bytes) i) 255)]) (σ' := srl σ []) rfl ?_
          refine wp_ic_eq rfl (by omega) (by omega) (fun h_4 => ?_) (fun h_4 => ?_)
          · show en_wp k_X10_afterBlanks 49 [some (.inr (.inr (r_Tape, 0))), some (.inl fr), some (.inl (σ r_Tape_filled 0)), some (.inl i), some (.inl (en_iand ((σ r_Tape_bytes) i) 255))] [] (srl σ []) _
            refine wp_run 2 (pc' := 7) (ls' := [some (.inr (.inr (r_Tape, 0))), some (.inl fr), some (.inl (σ r_Tape_filled 0)), some (.inl (i + 1)), some (.inl (en_iand ((σ r_Tape_bytes) i) 255))]) (st' := []) (σ' := srl σ []) rfl ?_
            refine wp_sub (l := [some (.inr (.inr (r_Tape, 0))), some (.inl fr), some (.inl (σ r_Tape_filled 0)), some (.inl (i + 1)), none]) (And.intro rfl (And.intro rfl (And.intro rfl (And.intro rfl trivial)))) ?_
            exact ih_7 (i + 1) (by omega) (fun j a b => by by_cases g9 : j = i; rw [g9]; show isBl (en_iand (σ r_Tape_bytes i) 255); unfold isBl; omega; exact hb j a (by omega)) (by omega)
          · show en_wp k_X10_afterBlanks 33 [some (.inr (.inr (r_Tape, 0))), some (.inl fr), some (.inl (σ r_Tape_filled 0)), some (.inl i), some (.inl (en_iand ((σ r_Tape_bytes) i) 255))] [] (srl σ []) _
            refine wp_run 2 (pc' := 37) (ls' := [some (.inr (.inr (r_Tape, 0))), some (.inl fr), some (.inl (σ r_Tape_filled 0)), some (.inl i), some (.inl (en_iand ((σ r_Tape_bytes) i) 255))]) (st' := [.inl 13, .inl (en_iand ((σ r_Tape_bytes) i) 255)]) (σ' := srl σ []) rfl ?_
            refine wp_ic_eq rfl (by omega) (by omega) (fun h_5 => ?_) (fun h_5 => ?_)
            · show en_wp k_X10_afterBlanks 49 [some (.inr (.inr (r_Tape, 0))), some (.inl fr), some (.inl (σ r_Tape_filled 0)), some (.inl i), some (.inl (en_iand ((σ r_Tape_bytes) i) 255))] [] (srl σ []) _
              refine wp_run 2 (pc' := 7) (ls' := [some (.inr (.inr (r_Tape, 0))), some (.inl fr), some (.inl (σ r_Tape_filled 0)), some (.inl (i + 1)), some (.inl (en_iand ((σ r_Tape_bytes) i) 255))]) (st' := []) (σ' := srl σ []) rfl ?_
              refine wp_sub (l := [some (.inr (.inr (r_Tape, 0))), some (.inl fr), some (.inl (σ r_Tape_filled 0)), some (.inl (i + 1)), none]) (And.intro rfl (And.intro rfl (And.intro rfl (And.intro rfl trivial)))) ?_
              exact ih_7 (i + 1) (by omega) (fun j a b => by by_cases g9 : j = i; rw [g9]; show isBl (en_iand (σ r_Tape_bytes i) 255); unfold isBl; omega; exact hb j a (by omega)) (by omega)
            · show en_wp k_X10_afterBlanks 40 [some (.inr (.inr (r_Tape, 0))), some (.inl fr), some (.inl (σ r_Tape_filled 0)), some (.inl i), some (.inl (en_iand ((σ r_Tape_bytes) i) 255))] [] (srl σ []) _
              refine wp_run 2 (pc' := 44) (ls' := [some (.inr (.inr (r_Tape, 0))), some (.inl fr), some (.inl (σ r_Tape_filled 0)), some (.inl i), some (.inl (en_iand ((σ r_Tape_bytes) i) 255))]) (st' := [.inl 32, .inl (en_iand ((σ r_Tape_bytes) i) 255)]) (σ' := srl σ []) rfl ?_
              refine wp_ic_eq rfl (by omega) (by omega) (fun h_6 => ?_) (fun h_6 => ?_)
              · show en_wp k_X10_afterBlanks 49 [some (.inr (.inr (r_Tape, 0))), some (.inl fr), some (.inl (σ r_Tape_filled 0)), some (.inl i), some (.inl (en_iand ((σ r_Tape_bytes) i) 255))] [] (srl σ []) _
                refine wp_run 2 (pc' := 7) (ls' := [some (.inr (.inr (r_Tape, 0))), some (.inl fr), some (.inl (σ r_Tape_filled 0)), some (.inl (i + 1)), some (.inl (en_iand ((σ r_Tape_bytes) i) 255))]) (st' := []) (σ' := srl σ []) rfl ?_
                refine wp_sub (l := [some (.inr (.inr (r_Tape, 0))), some (.inl fr), some (.inl (σ r_Tape_filled 0)), some (.inl (i + 1)), none]) (And.intro rfl (And.intro rfl (And.intro rfl (And.intro rfl trivial)))) ?_
                exact ih_7 (i + 1) (by omega) (fun j a b => by by_cases g9 : j = i; rw [g9]; show isBl (en_iand (σ r_Tape_bytes i) 255); unfold isBl; omega; exact hb j a (by omega)) (by omega)
              · show en_wp k_X10_afterBlanks 47 [some (.inr (.inr (r_Tape, 0))), some (.inl fr), some (.inl (σ r_Tape_filled 0)), some (.inl i), some (.inl (en_iand ((σ r_Tape_bytes) i) 255))] [] (srl σ []) _
                refine wp_run 1 (pc' := 48) (ls' := [some (.inr (.inr (r_Tape, 0))), some (.inl fr), some (.inl (σ r_Tape_filled 0)), some (.inl i), some (.inl (en_iand ((σ r_Tape_bytes) i) 255))]) (st' := [.inl i]) (σ' := srl σ []) rfl ?_
                exact wp_iret rfl ⟨i, rfl, srl_eq (l' := []) trivial trivial, (rn_eq hi.1 hi.2 hb (fun _ => by show ¬ isBl (en_iand (σ r_Tape_bytes i) 255); unfold isBl; omega)).symm⟩
  refine wp_run 1 (pc' := 1) (ls' := [some (.inr (.inr (r_Tape, 0))), some (.inl fr), none, none, none]) (st' := [.inr (.inr (r_Tape, 0))]) (σ' := srl σ []) rfl ?_
  refine wp_fnv (v := .inl ((σ r_Tape_filled) 0)) rfl rfl rfl rfl (ct_X8_bytesNow σ) ?_
  show en_wp k_X10_afterBlanks 4 [some (.inr (.inr (r_Tape, 0))), some (.inl fr), none, none, none] [.inl ((σ r_Tape_filled) 0)] (srl σ []) _
  refine wp_run 3 (pc' := 7) (ls' := [some (.inr (.inr (r_Tape, 0))), some (.inl fr), some (.inl ((σ r_Tape_filled) 0)), some (.inl fr), none]) (st' := []) (σ' := srl σ []) rfl ?_
  exact L_7 _ fr (by omega) (fun j a b => by omega) (Nat.lt_succ_self _)
