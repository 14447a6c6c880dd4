/-! contracts of methods, walked (written by wip/whole/walk.py from the annotations ann_m86) -/
theorem ct_X12_must_g (σ : en_m) (al : Int) (m9 : Int) (s : aS) (s2 : aS) (k0 : Int) (k : Int) (hN : 0 ≤ (σ r_Md_size) 0 ∧ (σ r_Md_size) 0 ≤ 2000) (hte : tkE (fun x => en_iand ((σ r_Md_text) x) 255) ((σ r_Md_size) 0) m9 (σ r_Md_tKind) (σ r_Md_tPlace) (σ r_Md_tValue) (σ r_Md_tName)) (hmo : mO al (fun x => en_iand ((σ r_Md_text) x) 255) ((σ r_Md_size) 0) s ((σ r_Md_t) 0) ((σ r_Md_fault) 0) ((σ r_Md_faultPlace) 0)) (hgo : (σ r_Md_fault) 0 = 0 → tp (fun x => en_iand ((σ r_Md_text) x) 255) ((σ r_Md_size) 0) ((σ r_Md_t) 0).toNat < (σ r_Md_size) 0 → gO al s (kK (fun x => en_iand ((σ r_Md_text) x) 255) ((σ r_Md_size) 0) ((σ r_Md_t) 0)) = if kK (fun x => en_iand ((σ r_Md_text) x) 255) ((σ r_Md_size) 0) ((σ r_Md_t) 0) = k0 then some s2 else none) (hB2 : auB s2) (hw : ¬ whl al s) (hk : k = mkM k0 ∧ 1 ≤ k0 ∧ k0 ≤ 12) : en_ct z_X12_must [.inr (.inr (r_Md, 0)), .inl k] σ (fun r σ' => ∃ (v_Md_t : Int → Int), ∃ (v_Md_fault : Int → Int), ∃ (v_Md_faultPlace : Int → Int), r = none ∧ σ' = srl σ [(r_Md_t, v_Md_t), (r_Md_fault, v_Md_fault), (r_Md_faultPlace, v_Md_faultPlace)] ∧ (mO al (fun x => en_iand ((σ r_Md_text) x) 255) ((σ r_Md_size) 0) s2 (v_Md_t 0) (v_Md_fault 0) (v_Md_faultPlace 0)) ∧ ((v_Md_fault 0) = 0 → (σ r_Md_fault) 0 = 0 ∧ (v_Md_t 0) = (σ r_Md_t) 0 + 1 ∧ kK (fun x => en_iand ((σ r_Md_text) x) 255) ((σ r_Md_size) 0) ((σ r_Md_t) 0) = k0 ∧ tp (fun x => en_iand ((σ r_Md_text) x) 255) ((σ r_Md_size) 0) ((σ r_Md_t) 0).toNat < (σ r_Md_size) 0)) := by
  show en_wp k_X12_must 0 [some (.inr (.inr (r_Md, 0))), some (.inl k)] [] (srl σ []) (fun r σ' => ∃ (v_Md_t : Int → Int), ∃ (v_Md_fault : Int → Int), ∃ (v_Md_faultPlace : Int → Int), r = none ∧ σ' = srl σ [(r_Md_t, v_Md_t), (r_Md_fault, v_Md_fault), (r_Md_faultPlace, v_Md_faultPlace)] ∧ (mO al (fun x => en_iand ((σ r_Md_text) x) 255) ((σ r_Md_size) 0) s2 (v_Md_t 0) (v_Md_fault 0) (v_Md_faultPlace 0)) ∧ ((v_Md_fault 0) = 0 → (σ r_Md_fault) 0 = 0 ∧ (v_Md_t 0) = (σ r_Md_t) 0 + 1 ∧ kK (fun x => en_iand ((σ r_Md_text) x) 255) ((σ r_Md_size) 0) ((σ r_Md_t) 0) = k0 ∧ tp (fun x => en_iand ((σ r_Md_text) x) 255) ((σ r_Md_size) 0) ((σ r_Md_t) 0).toNat < (σ r_Md_size) 0))
  have htb := hmo.1
  have hFb := mo_F hmo
  have hkm := fun q => mo_k hte htb (mo_st hmo q)
  have hkb := mkM_0 k0
  have hkc := kM_b (fun x => en_iand (σ r_Md_text x) 255) (σ r_Md_size 0) (σ r_Md_t 0)
  refine wp_run 2 (pc' := 2) (ls' := [some (.inr (.inr (r_Md, 0))), some (.inl k)]) (st' := [.inl k, .inr (.inr (r_Md, 0))]) (σ' := srl σ []) rfl ?_
  refine wp_fnv (v := .inl (bI ((σ r_Md_fault) 0 = 0 ∧ (σ r_Md_tKind) ((σ r_Md_t) 0) = k))) rfl rfl rfl rfl (ct_X12_is σ k htb hFb (fun q => by rw [(hkm q).1]; exact hkc) (by omega)) ?_
  show en_wp k_X12_must 5 [some (.inr (.inr (r_Md, 0))), some (.inl k)] [.inl (bI ((σ r_Md_fault) 0 = 0 ∧ (σ r_Md_tKind) ((σ r_Md_t) 0) = k))] (srl σ []) _
  refine wp_if_eqb rfl (fun h_1 => ?_) (fun h_1 => ?_)
  · have hng := h_1
    show en_wp k_X12_must 15 [some (.inr (.inr (r_Md, 0))), some (.inl k)] [] (srl σ []) _
    refine wp_run 2 (pc' := 17) (ls' := [some (.inr (.inr (r_Md, 0))), some (.inl k)]) (st' := [.inl 1, .inr (.inr (r_Md, 0))]) (σ' := srl σ []) rfl ?_
    refine wp_callv rfl rfl rfl rfl (ct_X12_fail σ 1 htb hFb) ?_
    rintro _ _ ⟨v_2, v_3, rfl, rfl, p_4⟩
    have p_4 : (¬ (σ r_Md_fault) 0 = 0 ∧ (v_2 0) = (σ r_Md_fault) 0 ∧ (v_3 0) = (σ r_Md_faultPlace) 0) ∨ ((σ r_Md_fault) 0 = 0 ∧ (v_2 0) = 1 ∧ (v_3 0) = (σ r_Md_tPlace) ((σ r_Md_t) 0)) := p_4
    show en_wp k_X12_must 20 [some (.inr (.inr (r_Md, 0))), some (.inl k)] [] (srl σ [(r_Md_fault, v_2), (r_Md_faultPlace, v_3)]) _
    have kf := (p_4)
    exact wp_vret rfl ⟨(σ r_Md_t), v_2, v_3, rfl, srl_eq (l' := [(r_Md_t, σ r_Md_t), (r_Md_fault, v_2), (r_Md_faultPlace, v_3)]) (And.intro rfl (And.intro rfl trivial)) (And.intro rfl (And.intro rfl (And.intro rfl trivial))), (by first | exact ⟨kg.1, fun q => ⟨hq8, kg.2 q, hq9.2, hq9.1⟩⟩ | (rcases kf with q | q; (rw [q.2.1, q.2.2]; exact ⟨mo_re hmo q.1, fun e => absurd e q.1⟩); (rw [q.2.1, q.2.2, (hkm q.1).2.1]; exact ⟨mo_bad htb (mo_st hmo q.1) (mu_c (k0 := k0) hk.2 (hgo q.1) hw (fun e => hng ⟨q.1, by rw [(hkm q.1).1, hk.1]; exact e⟩)), fun e => absurd e (by decide)⟩)))⟩
  · have hq7 := h_1
    have hq8 := hq7.1
    have hq9 := (kM_is (b := (fun x => en_iand (σ r_Md_text x) 255)) (N := σ r_Md_size 0) (t := σ r_Md_t 0) hk.2).mp (by rw [← (hkm hq8).1, ← hk.1]; exact hq7.2)
    show en_wp k_X12_must 8 [some (.inr (.inr (r_Md, 0))), some (.inl k)] [] (srl σ []) _
    refine wp_run 1 (pc' := 9) (ls' := [some (.inr (.inr (r_Md, 0))), some (.inl k)]) (st' := [.inr (.inr (r_Md, 0))]) (σ' := srl σ []) rfl ?_
    refine wp_callv rfl rfl rfl rfl (ct_X12_goesOn σ al m9 s s2 hN hte hmo hq8 hq9.1 (by rw [hgo hq8 hq9.1, if_pos hq9.2]) hB2) ?_
    rintro _ _ ⟨v_5, v_6, v_7, rfl, rfl, p_8, p_9⟩
    have p_8 : mO al (fun x => en_iand ((σ r_Md_text) x) 255) ((σ r_Md_size) 0) s2 (v_5 0) (v_6 0) (v_7 0) := p_8
    have p_9 : (v_6 0) = 0 → (v_5 0) = (σ r_Md_t) 0 + 1 := p_9
    show en_wp k_X12_must 12 [some (.inr (.inr (r_Md, 0))), some (.inl k)] [] (srl σ [(r_Md_t, v_5), (r_Md_fault, v_6), (r_Md_faultPlace, v_7)]) _
    have kg := (⟨p_8, p_9⟩ : _ ∧ _)
    refine wp_run 1 (pc' := 20) (ls' := [some (.inr (.inr (r_Md, 0))), some (.inl k)]) (st' := []) (σ' := srl σ [(r_Md_t, v_5), (r_Md_fault, v_6), (r_Md_faultPlace, v_7)]) rfl ?_
    exact wp_vret rfl ⟨v_5, v_6, v_7, rfl, srl_eq (l' := [(r_Md_t, v_5), (r_Md_fault, v_6), (r_Md_faultPlace, v_7)]) (And.intro rfl (And.intro rfl (And.intro rfl trivial))) (And.intro rfl (And.intro rfl (And.intro rfl trivial))), (by first | exact ⟨kg.1, fun q => ⟨hq8, kg.2 q, hq9.2, hq9.1⟩⟩ | (rcases kf with q | q; (rw [q.2.1, q.2.2]; exact ⟨mo_re hmo q.1, fun e => absurd e q.1⟩); (rw [q.2.1, q.2.2, (hkm q.1).2.1]; exact ⟨mo_bad htb (mo_st hmo q.1) (mu_c (k0 := k0) hk.2 (hgo q.1) hw (fun e => hng ⟨q.1, by rw [(hkm q.1).1, hk.1]; exact e⟩)), fun e => absurd e (by decide)⟩)))⟩
