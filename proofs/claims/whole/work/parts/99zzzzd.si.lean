/-! the loop over the tokens of a sum -/
def smI (al : Int) (b : Int → Int) (N : Int) (V NM : Int → Int) (lm fr C0 : Int) (rest : Int × Int × Int) (W0 P0 mr t FA FP o : Int) (H M F L BE : Int → Int) (C : Int) (CO CI : Int → Int) (W P : Int) : Prop := (0 ≤ o ∧ o ≤ 4) ∧ (mr = 0 ∨ mr = 1) ∧ (¬ W = 0 → FA = 0 → 0 ≤ P ∧ P < pM b N t) ∧ (C0 ≤ C ∧ C ≤ 850 ∧ 0 ≤ W ∧ W ≤ 5) ∧ ((¬ FA = 0 ∧ ∃ s, mO al b N s t FA FP) ∨ (FA = 0 ∧ wU b N NM lm fr t W0 P0 W P ∧ ((mr = 1 ∧ ∃ s, smL al b N V lm fr C0 rest s t o H M F L BE C CO CI W) ∨ (mr = 0 ∧ o = 0 ∧ smE al b N V lm fr C0 rest t BE C CO CI W))))
/-- a sum read -/
def smP (al : Int) (b : Int → Int) (N : Int) (V NM : Int → Int) (lm fr C0 : Int) (rest : Int × Int × Int) (W0 P0 t FA FP o : Int) (BE : Int → Int) (C : Int) (CO CI : Int → Int) (W P : Int) : Prop := (0 ≤ o ∧ o ≤ 4) ∧ (C0 ≤ C ∧ C ≤ 850 ∧ 0 ≤ W ∧ W ≤ 5) ∧ ((¬ FA = 0 ∧ ∃ s, mO al b N s t FA FP) ∨ (FA = 0 ∧ o = 0 ∧ wU b N NM lm fr t W0 P0 W P ∧ (¬ W = 0 → 0 ≤ P ∧ P < pM b N t) ∧ smE al b N V lm fr C0 rest t BE C CO CI W))
section SI
variable {al N fr C0 t o C W P lm W0 P0 t' FA FP FA' FP' o' W' P' mr : Int} {b V NM : Int → Int} {rest : Int × Int × Int} {s s2 : aS} {H M F L BE H' M' F' L' BE' : Int → Int} {C' : Int} {CO CI CO' CI' : Int → Int}
theorem sI_F (h : smI al b N V NM lm fr C0 rest W0 P0 mr t FA FP o H M F L BE C CO CI W P) : 0 ≤ FA ∧ FA ≤ 2 := by
  rcases h.2.2.2.2 with ⟨_, s, k⟩ | ⟨k, _⟩
  · exact mo_F k
  · omega
theorem sI_live (h : smI al b N V NM lm fr C0 rest W0 P0 mr t FA FP o H M F L BE C CO CI W P) (hm : ¬ mr = 0) (hF : FA = 0) : wU b N NM lm fr t W0 P0 W P ∧ ∃ s, smL al b N V lm fr C0 rest s t o H M F L BE C CO CI W := by
  rcases h.2.2.2.2 with ⟨k, _⟩ | ⟨_, k, g⟩
  · exact absurd hF k
  · rcases g with ⟨_, g⟩ | ⟨g, _⟩
    · exact ⟨k, g⟩
    · exact absurd g hm
theorem sI_out (h : smI al b N V NM lm fr C0 rest W0 P0 mr t FA FP o H M F L BE C CO CI W P) (hm : mr = 0 ∨ ¬ FA = 0) : smP al b N V NM lm fr C0 rest W0 P0 t FA FP o BE C CO CI W P := by
  refine ⟨h.1, h.2.2.2.1, ?_⟩
  rcases h.2.2.2.2 with k | ⟨k1, k, g⟩
  · exact .inl k
  · rcases g with ⟨g, _⟩ | ⟨g, g1, g2⟩
    · rcases hm with q | q
      · omega
      · exact absurd k1 q
    · exact .inr ⟨k1, g1, k, fun w => h.2.2.1 w k1, g2⟩
theorem sI_go (hoB : 0 ≤ o' ∧ o' ≤ 4) (hC : C0 ≤ C' ∧ C' ≤ 850) (hW : 0 ≤ W' ∧ W' ≤ 5) (kg1 : mO al b N s2 t' FA' FP') (kg2 : FA' = 0 → t' = t + 1) (hP : ¬ W' = 0 → 0 ≤ P' ∧ P' < pM b N (t + 1)) (hU : wU b N NM lm fr (t + 1) W0 P0 W' P') (hL : stT al b N (t + 1).toNat = some s2 ∧ t + 1 ≤ 400 → smL al b N V lm fr C0 rest s2 (t + 1) o' H' M' F' L' BE' C' CO' CI' W') : smI al b N V NM lm fr C0 rest W0 P0 1 t' FA' FP' o' H' M' F' L' BE' C' CO' CI' W' P' := by
  refine ⟨hoB, .inr rfl, fun w f => ?_, ⟨hC.1, hC.2, hW.1, hW.2⟩, ?_⟩
  · rw [kg2 f]; exact hP w
  · by_cases f : FA' = 0
    · have e := kg2 f
      have k := mo_st kg1 f
      have kb := kg1.1
      subst e
      exact .inr ⟨f, hU, .inl ⟨rfl, s2, hL ⟨k, kb.2⟩⟩⟩
    · exact .inl ⟨f, s2, kg1⟩
/-- a bracket opened, perhaps with a sign behind it -/
theorem sI_op {t1 FA1 FP1 t2 FA2 FP2 : Int} {H2 M2 F2 L2 BE2 : Int → Int} (hL0 : smL al b N V lm fr C0 rest s t o H M F L BE C CO CI W) (hoB : 0 ≤ o ∧ o ≤ 3) (hC : C0 ≤ C ∧ C ≤ 850) (hW : 0 ≤ W ∧ W ≤ 5) (hk : kK b N t = 11) (hU : wU b N NM lm fr t W0 P0 W P) (hP : ¬ W = 0 → 0 ≤ P ∧ P < pM b N t) (hlt : tp b N t.toNat < N) (kg1 : mO al b N (4, o + 1, s.2.2) t1 FA1 FP1) (kg2 : FA1 = 0 → t1 = t + 1) (e1 : H2 = up H (o + 1) 0 ∧ BE2 = up BE (o + 1) 0 ∧ F2 = up F (o + 1) 0 ∧ L2 = up L (o + 1) 0) (e2 : (M2 = up M (o + 1) 0 ∧ t2 = t1 ∧ FA2 = FA1 ∧ FP2 = FP1 ∧ (FA1 = 0 → ¬ (tp b N t1.toNat < N ∧ kK b N t1 = 10))) ∨ (M2 = up M (o + 1) 1 ∧ FA1 = 0 ∧ (tp b N t1.toNat < N ∧ kK b N t1 = 10) ∧ mO al b N (5, o + 1, s.2.2) t2 FA2 FP2 ∧ (FA2 = 0 → t2 = t1 + 1))) : smI al b N V NM lm fr C0 rest W0 P0 1 t2 FA2 FP2 (o + 1) H2 M2 F2 L2 BE2 C CO CI W P := by
  obtain ⟨rfl, rfl, rfl, rfl⟩ := e1
  have ht := hL0.1.2
  have hp1 := tp_up ht.1 hlt
  rcases e2 with ⟨rfl, rfl, rfl, rfl, e⟩ | ⟨rfl, f1, e, m, g⟩
  · by_cases f : FA2 = 0
    · have e3 := kg2 f
      have k := mo_st kg1 f
      have kb := kg1.1
      subst e3
      exact ⟨by omega, .inr rfl, fun w _ => by have := hP w; omega, ⟨hC.1, hC.2, hW.1, hW.2⟩, .inr ⟨f, wU_k hU (fun q => by omega), .inl ⟨rfl, _, sm_op0 hL0 ⟨k, kb.2⟩ rfl hk hoB.2 (e f)⟩⟩⟩
    · exact ⟨by omega, .inr rfl, fun _ q => absurd q f, ⟨hC.1, hC.2, hW.1, hW.2⟩, .inl ⟨f, _, kg1⟩⟩
  · have e3 := kg2 f1
    subst e3
    have hp2 := tp_up (show 0 ≤ t + 1 by omega) e.1
    by_cases f : FA2 = 0
    · have e4 := g f
      have k := mo_st m f
      have kb := m.1
      subst e4
      exact ⟨by omega, .inr rfl, fun w _ => by have := hP w; omega, ⟨hC.1, hC.2, hW.1, hW.2⟩, .inr ⟨f, wU_k (wU_k hU (fun q => by omega)) (fun q => by omega), .inl ⟨rfl, _, sm_op1 hL0 ⟨k, kb.2⟩ rfl hk hoB.2 e.2⟩⟩⟩
    · exact ⟨by omega, .inr rfl, fun _ q => absurd q f, ⟨hC.1, hC.2, hW.1, hW.2⟩, .inl ⟨f, _, m⟩⟩
/-- the sum begun -/
theorem sI_st {H2 M2 F2 L2 BE2 : Int → Int} (hs : stT al b N fr.toNat = some s) (hf : 0 ≤ fr ∧ fr ≤ 400) (h4 : s.1 = 4) (hd : s.2.1 = 0) (hr : s.2.2 = rest) (hC : C ≤ 850) (hW : 0 ≤ W0 ∧ W0 ≤ 5) (hP : ¬ W0 = 0 → 0 ≤ P0 ∧ P0 < pM b N fr) (hF : FA = 0) (hm : mO al b N s fr FA FP) (e1 : H2 = up H 0 0 ∧ BE2 = up BE 0 0 ∧ F2 = up F 0 0 ∧ L2 = up L 0 0) (e2 : (M2 = up M 0 0 ∧ t' = fr ∧ FA' = FA ∧ FP' = FP ∧ (FA = 0 → ¬ (tp b N fr.toNat < N ∧ kK b N fr = 10))) ∨ (M2 = up M 0 1 ∧ FA = 0 ∧ (tp b N fr.toNat < N ∧ kK b N fr = 10) ∧ mO al b N (5, s.2) t' FA' FP' ∧ (FA' = 0 → t' = fr + 1))) : smI al b N V NM lm fr C rest W0 P0 1 t' FA' FP' 0 H2 M2 F2 L2 BE2 C CO CI W0 P0 := by
  obtain ⟨rfl, rfl, rfl, rfl⟩ := e1
  have hU : wU b N NM lm fr fr W0 P0 W0 P0 := wU_0 (by omega)
  rcases e2 with ⟨rfl, rfl, rfl, rfl, e⟩ | ⟨rfl, _, e, m, g⟩
  · exact ⟨by omega, .inr rfl, fun w _ => hP w, ⟨Int.le_refl _, hC, hW.1, hW.2⟩, .inr ⟨hF, hU, .inl ⟨rfl, s, sm_st0 hs hf h4 hd hr (e hF)⟩⟩⟩
  · have hp := tp_up hf.1 e.1
    by_cases f : FA' = 0
    · have e4 := g f
      have k := mo_st m f
      have kb := m.1
      subst e4
      exact ⟨by omega, .inr rfl, fun w _ => by have := hP w; omega, ⟨Int.le_refl _, hC, hW.1, hW.2⟩, .inr ⟨f, wU_k hU (fun q => by omega), .inl ⟨rfl, _, sm_st1 k ⟨hf.1, kb.2⟩ hd hr e.2⟩⟩⟩
    · exact ⟨by omega, .inr rfl, fun _ q => absurd q f, ⟨Int.le_refl _, hC, hW.1, hW.2⟩, .inl ⟨f, _, m⟩⟩
/-- a term ended -/
theorem sI_gb {r : Int} (hL : smL al b N V lm fr C0 rest s t o H M F L BE C CO CI W) (hC : C0 ≤ C ∧ C ≤ 840) (hW : 0 ≤ W ∧ W ≤ 5) (hU : wU b N NM lm fr t W0 P0 W P) (hP : ¬ W = 0 → 0 ≤ P ∧ P < pM b N t) (hn5 : tp b N t.toNat < N → ¬ kK b N t = 5 ∧ ¬ kK b N t = 11) (hoB : 0 ≤ o ∧ o ≤ 4)
    (h : (r = 0 ∧ ¬ FA' = 0 ∧ mO al b N s t' FA' FP' ∧ o' = o ∧ C ≤ C' ∧ C' ≤ C + 1) ∨ (r = 0 ∧ FA' = 0 ∧ t' = t ∧ FP' = FP ∧ o = 0 ∧ o' = 0 ∧ 0 < F o ∧ etQ o H M F L BE C CO CI H' F' L' BE' C' CO' CI' ∧ M' = M ∧ (tp b N t.toNat < N → ¬ (kK b N t = 9 ∨ kK b N t = 10))) ∨ (r = 1 ∧ 0 < F o ∧ (tp b N t.toNat < N) ∧ (kK b N t = 9 ∨ kK b N t = 10) ∧ etQ o H M F L BE C CO CI H' F' L' BE' C' CO' CI' ∧ M' = up M o (if kK b N t = 10 then 1 else 0) ∧ o' = o ∧ mO al b N (5, s.2) t' FA' FP' ∧ (FA' = 0 → t' = t + 1)) ∨ (r = 1 ∧ 0 < F o ∧ 1 ≤ o ∧ (tp b N t.toNat < N) ∧ kK b N t = 12 ∧ (∃ F1 L1 C1 CO1 CI1, etQ o H M F L BE C CO CI H' F1 L1 BE' C1 CO1 CI1 ∧ faQ (o - 1) (BE' o) F1 L1 C1 CO1 CI1 F' L' C' CO' CI') ∧ M' = M ∧ o' = o - 1 ∧ mO al b N (6, s.2.1 - 1, s.2.2) t' FA' FP' ∧ (FA' = 0 → t' = t + 1))) : smI al b N V NM lm fr C0 rest W0 P0 r t' FA' FP' o' H' M' F' L' BE' C' CO' CI' W P := by
  rcases h with ⟨rfl, f, m, rfl, c1, c2⟩ | ⟨rfl, f, rfl, _, ho, rfl, hf, e, _, hn⟩ | ⟨rfl, hf, hlt, hk, e, e2, rfl, m, g⟩ | ⟨rfl, hf, ho, hlt, hk, ⟨F1, L1, C1, CO1, CI1, e, e2⟩, rfl, rfl, m, g⟩
  · exact ⟨hoB, .inl rfl, fun _ q => absurd q f, by omega, .inl ⟨f, s, m⟩⟩
  · have c := et_b e
    exact ⟨by omega, .inl rfl, fun w _ => hP w, by omega, .inr ⟨f, hU, .inr ⟨rfl, rfl, sm_end hL hf ho e (fun q => by have := hn q; have := hn5 q; omega)⟩⟩⟩
  · have c := et_b e
    have hp := tp_up hL.1.2.1 hlt
    exact sI_go hoB (by omega) hW m g (fun w => by have := hP w; omega) (wU_k hU (fun q => by omega)) (fun q => sm_pm hL q hf hk e e2)
  · have c := et_b e
    have hp := tp_up hL.1.2.1 hlt
    have c2 : C1 ≤ C' ∧ C' ≤ C1 + 1 := by rcases e2.2.2 with q | q <;> omega
    exact sI_go (by omega) (by omega) hW m g (fun w => by have := hP w; omega) (wU_k hU (fun q => by omega)) (fun q => sm_cls hL q hf hk ho e e2)
end SI
theorem vM_6 {b NM : Int → Int} {N lm t : Int} (h : kK b N t = 6) : vM b N NM lm t = dfI b N t := if_pos h
theorem vM_5 {b NM : Int → Int} {N lm t : Int} (h : kK b N t = 5) : vM b N NM lm t = fd NM (nm27 b N t) lm := if_neg (by omega)
section GOY
variable {al k : Int} {s : aS}
theorem gO_45i (hi : inS s) (h6 : ¬ s.1 = 6) : gO al s 6 = some (6, s.2) := by
  unfold gO
  have hm : mB s 6 = some (6, s.2) := if_pos rfl
  rcases hi with h | h | h
  · rw [if_neg (by omega), if_neg (by omega), if_neg (by omega), if_neg (by omega), if_pos h, if_neg (by decide)]
    exact hm
  · rw [if_neg (by omega), if_neg (by omega), if_neg (by omega), if_neg (by omega), if_neg (by omega), if_pos h]
    exact hm
  · exact absurd h h6
theorem gO_fb (hi : inS s) (hk : k = 5 ∨ k = 11) : gO al s k = fB s k := by
  have hm : mB s k = fB s k := if_neg (by omega)
  rcases hi with h | h | h
  · unfold gO
    rw [if_neg (by omega), if_neg (by omega), if_neg (by omega), if_neg (by omega), if_pos h, if_neg (by omega)]
    exact hm
  · unfold gO
    rw [if_neg (by omega), if_neg (by omega), if_neg (by omega), if_neg (by omega), if_neg (by omega), if_pos h]
    exact hm
  · rw [gO_6 h]
    unfold tG
    rw [if_neg (by omega), if_neg (by omega), if_neg (by omega), if_neg (by omega)]
theorem gO_n5 (hi : inS s) : gO al s 5 = some (6, s.2) := by
  rw [gO_fb hi (.inl rfl)]
  unfold fB
  rw [if_neg (by decide), if_pos rfl]
theorem gO_n11 (hi : inS s) : gO al s 11 = some (4, s.2.1 + 1, s.2.2) := by
  rw [gO_fb hi (.inr rfl)]
  unfold fB
  rw [if_pos rfl]
end GOY
theorem nm27_b {b : Int → Int} {N t : Int} (h : tp b N t.toNat < N) (hk : kK b N t = 5) : i64 (nm27 b N t) := by
  have g := tok_5 h hk
  have q := te_b (b := b) h
  have w := wf_b (x := 27) (b := b) (i := tp b N t.toNat) (by decide) (te b N (tp b N t.toNat) - tp b N t.toNat).toNat (fun j a c => g.2 _ (by omega) (by omega))
  have l : (27 : Int) ^ (te b N (tp b N t.toNat) - tp b N t.toNat).toNat ≤ 27 ^ 8 := pow_mono (by decide) (by omega)
  have l2 : (27 : Int) ^ 8 = 282429536481 := by decide
  unfold i64 nm27
  omega
theorem dfI_b {b : Int → Int} {N t : Int} (h : tp b N t.toNat < N) (hk : kK b N t = 6) : 0 ≤ dfI b N t ∧ dfI b N t ≤ 9999 := by
  have g := tok_6 h hk
  have q := te_b (b := b) h
  have w := df_bd (b := b) (i := tp b N t.toNat) (te b N (tp b N t.toNat) - tp b N t.toNat).toNat (fun j a c => g.2 j a (by omega))
  have l : (10 : Int) ^ (te b N (tp b N t.toNat) - tp b N t.toNat).toNat ≤ 10 ^ 4 := pow_mono (by decide) (by omega)
  have l2 : (10 : Int) ^ 4 = 10000 := by decide
  unfold dfI
  omega
/-- a name that is none of the letters -/
theorem wr_f {b NM : Int → Int} {N lm fr t W0 P0 W P W' P' TP : Int} (k2 : W = 0 → W' = 4 ∧ P' = TP) (k3 : ¬ W = 0 → (P < TP ∨ (P = TP ∧ W ≤ 4)) → W' = W ∧ P' = P) (hWP : ¬ W = 0 → 0 ≤ P ∧ P < pM b N t) (hTP : TP = pM b N t) (hlt : tp b N t.toNat < N) (hp : 0 ≤ pM b N t) (hb : 0 ≤ W ∧ W ≤ 5) (hU : wU b N NM lm fr t W0 P0 W P) (ht : 0 ≤ t) (hf : fr ≤ t) (hk : kK b N t = 5) (hu : uM b N NM lm t) : ¬ W' = 0 ∧ (0 ≤ W' ∧ W' ≤ 5) ∧ (0 ≤ P' ∧ P' < pM b N (t + 1)) ∧ wU b N NM lm fr (t + 1) W0 P0 W' P' := by
  have hpu := tp_up ht hlt
  by_cases w : W = 0
  · obtain ⟨a, c⟩ := k2 w
    have e : pM b N t = tp b N t.toNat := if_neg (by omega)
    rw [a, c, hTP]
    refine ⟨by decide, by decide, ⟨hp, hpu⟩, ?_⟩
    rw [e]
    exact wU_n hU hf w hk hu
  · have q := hWP w
    obtain ⟨a, c⟩ := k3 w (.inl (by omega))
    rw [a, c]
    exact ⟨w, hb, by omega, wU_m hU w⟩
/-- bounds of the levels -/
theorem sm_lv {al N fr C0 t o C W lm : Int} {b V : Int → Int} {rest : Int × Int × Int} {s : aS} {H M F L BE CO CI : Int → Int} (h : smL al b N V lm fr C0 rest s t o H M F L BE C CO CI W) : ∀ l, 0 ≤ l → l ≤ o → (0 ≤ F l ∧ F l ≤ 1000) ∧ (0 ≤ L l ∧ L l ≤ 1000) ∧ (0 ≤ BE l ∧ BE l ≤ 1000) ∧ (H l = 0 ∨ H l = 1) ∧ (M l = 0 ∨ M l = 1) := fun l a c => by
  obtain ⟨h1, h2, h3, h4, h5, h6, h7, h8, h9, h10⟩ := h
  have k := h7.2.2.2.2.1 l a c
  obtain ⟨A, B, _, k2, k3⟩ := h7.2.2.1
  have kb := lb_at h7.2.1.1 k2 (l := l) ⟨a, c⟩
  have kl := k3 l a c
  have hf := h7.1
  rw [kl.1, kl.2]
  exact ⟨by omega, by omega, by omega, k.2, h9 l a c⟩
/-- the loop ends -/
theorem ms_l {mr FA t mr' FA' t' : Int} {N : Nat} (hm : ¬ mr = 0) (hF : FA = 0) (ht : 0 ≤ t ∧ t ≤ 400) (hN : (if mr = 0 ∨ ¬ FA = 0 then (0 : Int) else 401 - t).toNat < N + 1) (h : mr' = 0 ∨ ¬ FA' = 0 ∨ t + 1 ≤ t') : (if mr' = 0 ∨ ¬ FA' = 0 then (0 : Int) else 401 - t').toNat < N := by
  rw [if_neg (by omega)] at hN
  split <;> omega
theorem ms_go {FA' t' t : Int} {X : Int} (h : FA' = 0 → t' = t + 1) : X = 0 ∨ ¬ FA' = 0 ∨ t + 1 ≤ t' := by
  by_cases c : FA' = 0
  · have := h c; omega
  · exact .inr (.inl c)
theorem ms_op {FA1 t1 FA2 t2 t X : Int} {A B Q R D : Prop} (k : FA1 = 0 → t1 = t + 1) (h : (A ∧ t2 = t1 ∧ FA2 = FA1 ∧ B) ∨ (Q ∧ FA1 = 0 ∧ R ∧ D ∧ (FA2 = 0 → t2 = t1 + 1))) : X = 0 ∨ ¬ FA2 = 0 ∨ t + 1 ≤ t2 := by
  by_cases c : FA2 = 0
  · rcases h with ⟨_, a, b, _⟩ | ⟨_, a, _, _, b⟩
    · have := k (by omega); omega
    · have := k a; have := b c; omega
  · exact .inr (.inl c)
theorem ms_gb {r FA' t' t : Int} {A B C D E F G I J K L O Q R S T U : Prop} (h : (r = 0 ∧ A) ∨ (r = 0 ∧ B) ∨ (r = 1 ∧ C ∧ D ∧ E ∧ F ∧ G ∧ I ∧ J ∧ (FA' = 0 → t' = t + 1)) ∨ (r = 1 ∧ K ∧ L ∧ O ∧ Q ∧ R ∧ S ∧ T ∧ U ∧ (FA' = 0 → t' = t + 1))) : r = 0 ∨ ¬ FA' = 0 ∨ t + 1 ≤ t' := by
  rcases h with h | h | h | h
  · exact .inl h.1
  · exact .inl h.1
  · exact ms_go h.2.2.2.2.2.2.2.2
  · exact ms_go h.2.2.2.2.2.2.2.2.2
theorem aB_o {s : aS} (h : auB s) (ho : s.2.1 ≤ 3) : auB (4, s.2.1 + 1, s.2.2) := ⟨by dsimp only; omega, by have := h.2.1; dsimp only; omega, h.2.2⟩
theorem fa_c {o more C C' C0 : Int} {F L CO CI F' L' CO' CI' : Int → Int} (e : faQ o more F L (C + 1) CO CI F' L' C' CO' CI') (h : C0 ≤ C ∧ C ≤ 840) : C0 ≤ C' ∧ C' ≤ 850 := by
  rcases e.2.2 with q | q <;> omega
