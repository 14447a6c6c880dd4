/-! the reference within a sum -/
noncomputable def nm27 (b : Int → Int) (N j : Int) : Int := wf 27 b (tp b N j.toNat) (te b N (tp b N j.toNat) - tp b N j.toNat).toNat
noncomputable def nm32 (b : Int → Int) (N j : Int) : Int := wf 32 b (tp b N j.toNat) (te b N (tp b N j.toNat) - tp b N j.toNat).toNat
noncomputable def dfI (b : Int → Int) (N j : Int) : Int := df b (tp b N j.toNat) (te b N (tp b N j.toNat) - tp b N j.toNat).toNat
/-- numbers and letters told, with the names NM of lm letters -/
noncomputable def vM (b : Int → Int) (N : Int) (NM : Int → Int) (lm j : Int) : Int := if kK b N j = 6 then dfI b N j else fd NM (nm27 b N j) lm
def uM (b : Int → Int) (N : Int) (NM : Int → Int) (lm j : Int) : Prop := fd NM (nm27 b N j) lm = lm
/-- the first fault of a word within a sum -/
def wU (b : Int → Int) (N : Int) (NM : Int → Int) (lm fr t W0 P0 W P : Int) : Prop := (¬ W0 = 0 ∧ W = W0 ∧ P = P0) ∨ (W0 = 0 ∧ W = 0 ∧ ∀ j, fr ≤ j → j < t → kK b N j = 5 → ¬ uM b N NM lm j) ∨ (W0 = 0 ∧ W = 4 ∧ ∃ i, (fr ≤ i ∧ i < t) ∧ kK b N i = 5 ∧ uM b N NM lm i ∧ P = tp b N i.toNat ∧ ∀ j, fr ≤ j → j < i → kK b N j = 5 → ¬ uM b N NM lm j)
section WU
variable {b : Int → Int} {N lm fr t W0 P0 W P : Int} {NM : Int → Int}
theorem wU_0 (h : ¬ W0 = 0 ∨ W0 = 0) : wU b N NM lm fr fr W0 P0 W0 P0 := by
  rcases h with h | h
  · exact .inl ⟨h, rfl, rfl⟩
  · exact .inr (.inl ⟨h, h, fun j a c => by omega⟩)
theorem wU_k (h : wU b N NM lm fr t W0 P0 W P) (hk : kK b N t = 5 → ¬ uM b N NM lm t) : wU b N NM lm fr (t + 1) W0 P0 W P := by
  rcases h with h | ⟨h1, h2, h3⟩ | ⟨h1, h2, i, h3, h4⟩
  · exact .inl h
  · refine .inr (.inl ⟨h1, h2, fun j a c e => ?_⟩)
    by_cases q : j = t
    · rw [q] at e ⊢; exact hk e
    · exact h3 j a (by omega) e
  · exact .inr (.inr ⟨h1, h2, i, by omega, h4⟩)
theorem wU_n (h : wU b N NM lm fr t W0 P0 W P) (ht : fr ≤ t) (hW : W = 0) (hk : kK b N t = 5) (hu : uM b N NM lm t) : wU b N NM lm fr (t + 1) W0 P0 4 (tp b N t.toNat) := by
  rcases h with h | ⟨h1, h2, h3⟩ | ⟨h1, h2, _⟩
  · omega
  · exact .inr (.inr ⟨h1, rfl, t, by omega, hk, hu, rfl, h3⟩)
  · omega
theorem wU_m (h : wU b N NM lm fr t W0 P0 W P) (hW : ¬ W = 0) : wU b N NM lm fr (t + 1) W0 P0 W P := by
  rcases h with h | ⟨h1, h2, h3⟩ | ⟨h1, h2, i, h3, h4⟩
  · exact .inl h
  · exact absurd h2 hW
  · exact .inr (.inr ⟨h1, h2, i, by omega, h4⟩)
theorem wU_b (h : wU b N NM lm fr t W0 P0 W P) (h0 : 0 ≤ W0 ∧ W0 ≤ 5) : 0 ≤ W ∧ W ≤ 5 := by
  rcases h with h | h | h
  · omega
  · omega
  · have := h.2.1; omega
end WU
/-- places grow -/
theorem tp_up {b : Int → Int} {N t : Int} (ht : 0 ≤ t) (h : tp b N t.toNat < N) : pM b N t < pM b N (t + 1) := by
  have e : tp b N (t + 1).toNat = sk b N (te b N (tp b N t.toNat)) := by
    rw [show (t + 1).toNat = t.toNat + 1 by omega]
    rfl
  have g := te_b (b := b) h
  have k := (rn_b (q := fun j => isBl (b j)) (N := N) (i := te b N (tp b N t.toNat)) g.2).1
  have e2 : sk b N (te b N (tp b N t.toNat)) = rn (fun j => isBl (b j)) N (te b N (tp b N t.toNat)) := rfl
  unfold pM
  rw [if_neg (by omega), e, e2]
  split <;> omega
/-- within a sum, no fault yet -/
def smL (al : Int) (b : Int → Int) (N : Int) (V : Int → Int) (lm fr C0 : Int) (rest : Int × Int × Int) (s : aS) (t o : Int) (H M F L BE : Int → Int) (C : Int) (CO CI : Int → Int) (W : Int) : Prop := (stT al b N t.toNat = some s ∧ 0 ≤ t ∧ t ≤ 400) ∧ inS s ∧ s.2.1 = o ∧ s.2.2 = rest ∧ (0 < F o ↔ s.1 = 6) ∧ (s.1 = 4 → tp b N t.toNat < N → ¬ kK b N t = 10) ∧ sQp (kK b N) fr t o H F L BE ∧ (W = 0 → sV (kK b N) V fr t o H M F C0 C CO CI ∧ sD lm o H F C0 C CO CI) ∧ (∀ l, 0 ≤ l → l ≤ o → M l = 0 ∨ M l = 1) ∧ C0 ≤ C ∧ C ≤ C0 + 2 * (t - fr)
/-- a sum told: what stands at its end -/
def smE (al : Int) (b : Int → Int) (N : Int) (V : Int → Int) (lm fr C0 : Int) (rest : Int × Int × Int) (t : Int) (BE : Int → Int) (C : Int) (CO CI : Int → Int) (W : Int) : Prop := (stT al b N t.toNat = some (6, 0, rest) ∧ 0 ≤ t ∧ t ≤ 400) ∧ fr < t ∧ (∀ j, fr ≤ j → j < t → kK b N j = 5 ∨ kK b N j = 6 ∨ kK b N j = 9 ∨ kK b N j = 10 ∨ kK b N j = 11 ∨ kK b N j = 12) ∧ (tp b N t.toNat < N → ¬ (kK b N t = 5 ∨ kK b N t = 9 ∨ kK b N t = 10 ∨ kK b N t = 11)) ∧ (∀ m, enD (kK b N) m fr = t → BE 0 = lgV (kK b N) m fr) ∧ (0 ≤ BE 0 ∧ BE 0 ≤ 400) ∧ (C0 ≤ C ∧ C ≤ C0 + 2 * (t - fr) + 1) ∧ (W = 0 → okK lm CO CI C0 (C - C0).toNat ∧ dKn CO C0 (C - C0).toNat = 1) ∧ (W = 0 → ∀ m n D p, enD (kK b N) m fr = t → sOk n D p → (∀ j, fr ≤ j → j < t → kK b N j = 5 → 0 ≤ V j ∧ V j < n) → ∃ q, wkN n D p CO CI C0 (C - C0).toNat = [q] ∧ ∀ x, 0 ≤ x → x < sS n D (D + 1) → q x = evV n D p (kK b N) V m fr x)
section SM
variable {al N fr C0 t o C W lm : Int} {b V : Int → Int} {rest : Int × Int × Int} {s : aS} {H M F L BE H' M' F' L' BE' : Int → Int} {C' : Int} {CO CI CO' CI' : Int → Int}
theorem inS_6 (x : Int × Int × Int × Int) : inS (6, x) := .inr (.inr rfl)
theorem inS_5 (x : Int × Int × Int × Int) : inS (5, x) := .inr (.inl rfl)
theorem sm_st0 (h : stT al b N fr.toNat = some s) (hf : 0 ≤ fr ∧ fr ≤ 400) (h4 : s.1 = 4) (hd : s.2.1 = 0) (hr : s.2.2 = rest) (hn : ¬ (tp b N fr.toNat < N ∧ kK b N fr = 10)) : smL al b N V lm fr C rest s fr 0 (up H 0 0) (up M 0 0) (up F 0 0) (up L 0 0) (up BE 0 0) C CO CI W := by
  refine ⟨⟨h, hf⟩, .inl h4, hd, hr, ?_, fun _ c e => hn ⟨c, e⟩, sQp_0 hf.1, fun _ => ⟨sV_0, sD_0⟩, fun l a c => ?_, by omega, by omega⟩
  · rw [up_eq]; omega
  · rw [show l = 0 by omega, up_eq]; exact .inl rfl
theorem sm_st1 (h : stT al b N (fr + 1).toNat = some (5, s.2)) (hf : 0 ≤ fr ∧ fr + 1 ≤ 400) (hd : s.2.1 = 0) (hr : s.2.2 = rest) (hk : kK b N fr = 10) : smL al b N V lm fr C rest (5, s.2) (fr + 1) 0 (up H 0 0) (up M 0 1) (up F 0 0) (up L 0 0) (up BE 0 0) C CO CI W := by
  refine ⟨⟨h, by omega, hf.2⟩, inS_5 _, hd, hr, ?_, fun q => by (try dsimp only at q); omega, sQp_min (sQp_0 hf.1) hk (by rw [up_eq]; decide) (up_eq _ _ _) (up_eq _ _ _), fun _ => ?_, fun l a c => ?_, by omega, by omega⟩
  · rw [up_eq]
    exact ⟨fun q => by (try dsimp only at q); omega, fun q => by (try dsimp only at q); omega⟩
  · refine ⟨sV_min (M := up M 0 0) (sQp_0 (H := H) (F := F) (L := L) (BE := BE) hf.1) sV_0 hk (by rw [up_eq]; decide) (fun q => by omega) ?_, sD_0⟩
    funext x
    unfold up
    split <;> rfl
  · rw [show l = 0 by omega, up_eq]; exact .inr rfl
theorem sm_int (hv : 0 ≤ V t ∧ V t ≤ 9999) (h : smL al b N V lm fr C0 rest s t o H M F L BE C CO CI W) (h' : stT al b N (t + 1).toNat = some (6, s.2) ∧ t + 1 ≤ 400) (hk : kK b N t = 6) (hf : F o ≤ 0) (e1 : F' = up F o 1) (e2 : CO' = up CO C 0) (e3 : CI' = up CI C (V t)) : smL al b N V lm fr C0 rest (6, s.2) (t + 1) o H M F' L BE (C + 1) CO' CI' W := by
  obtain ⟨h1, h2, h3, h4, h5, h6, h7, h8, h9, h10⟩ := h
  refine ⟨⟨h'.1, by omega, h'.2⟩, inS_6 _, h3, h4, ?_, fun q => by (try dsimp only at q); omega, sQp_int h7 hk hf e1, fun w => ⟨sV_int h7 (h8 w).1 hk hf e1 e2 e3, sD_int h7.2.1 (fun l a c => (h7.2.2.2.2.1 l a c).2) (h8 w).2 hf hv e1 e2 e3⟩, h9, by omega, by omega⟩
  rw [e1, up_eq]
  exact ⟨fun _ => rfl, fun _ => by decide⟩
theorem sm_nam {w : Int} (h : smL al b N V lm fr C0 rest s t o H M F L BE C CO CI W) (h' : stT al b N (t + 1).toNat = some (6, s.2) ∧ t + 1 ≤ 400) (hk : kK b N t = 5) (hw : ∀ W', W' = 0 → (W = 0 ∧ w = V t) ∨ True) {W' : Int} (hW : W' = 0 → W = 0 ∧ w = V t ∧ 0 ≤ w ∧ w < lm) (e : faQ o 1 F L (C + 1) (up CO C 1) (up CI C w) F' L' C' CO' CI') : smL al b N V lm fr C0 rest (6, s.2) (t + 1) o H M F' L' BE C' CO' CI' W' := by
  obtain ⟨h1, h2, h3, h4, h5, h6, h7, h8, h9, h10⟩ := h
  have hF := (h7.2.2.2.2.1 o h7.2.1.1 (Int.le_refl _)).1
  refine ⟨⟨h'.1, by omega, h'.2⟩, inS_6 _, h3, h4, ?_, fun q => by (try dsimp only at q); omega, sQp_nam h7 hk e, fun w0 => ?_, h9, ?_, ?_⟩
  · rw [e.1, up_eq]
    exact ⟨fun _ => rfl, fun _ => by omega⟩
  · have k := hW w0
    have e2 := e
    rw [k.2.1] at e
    exact ⟨sV_nam h7 (h8 k.1).1 hk e, sD_nam h7.2.1 (fun l a c => (h7.2.2.2.2.1 l a c).2) hF.1 (h8 k.1).2 k.2.2 e2⟩
  · rcases e.2.2 with q | q <;> omega
  · rcases e.2.2 with q | q <;> omega
theorem sm_op0 (h : smL al b N V lm fr C0 rest s t o H M F L BE C CO CI W) {s2 : aS} (h' : stT al b N (t + 1).toNat = some s2 ∧ t + 1 ≤ 400) (hs2 : s2 = (4, o + 1, s.2.2)) (hk : kK b N t = 11) (ho : o ≤ 3) (hn : ¬ (tp b N (t + 1).toNat < N ∧ kK b N (t + 1) = 10)) : smL al b N V lm fr C0 rest s2 (t + 1) (o + 1) (up H (o + 1) 0) (up M (o + 1) 0) (up F (o + 1) 0) (up L (o + 1) 0) (up BE (o + 1) 0) C CO CI W := by
  obtain ⟨h1, h2, h3, h4, h5, h6, h7, h8, h9, h10⟩ := h
  subst hs2
  refine ⟨⟨h'.1, by omega, h'.2⟩, .inl rfl, rfl, h4, ?_, fun _ c e => hn ⟨c, e⟩, sQp_opn h7 hk ho, fun w => ⟨sV_opn h7 (h8 w).1 hk ho, sD_opn h7.2.1.1 (h8 w).2⟩, fun l a c => ?_, by omega, by omega⟩
  · rw [up_eq]
    exact ⟨fun q => by (try dsimp only at q); omega, fun q => by (try dsimp only at q); omega⟩
  · by_cases q : l = o + 1
    · rw [q, up_eq]; exact .inl rfl
    · rw [up_ne q]; exact h9 l a (by omega)
theorem sm_op1 (h : smL al b N V lm fr C0 rest s t o H M F L BE C CO CI W) {s2 : aS} (h' : stT al b N (t + 1 + 1).toNat = some s2 ∧ t + 1 + 1 ≤ 400) (hs2 : s2 = (5, o + 1, s.2.2)) (hk : kK b N t = 11) (ho : o ≤ 3) (hk2 : kK b N (t + 1) = 10) : smL al b N V lm fr C0 rest s2 (t + 1 + 1) (o + 1) (up H (o + 1) 0) (up M (o + 1) 1) (up F (o + 1) 0) (up L (o + 1) 0) (up BE (o + 1) 0) C CO CI W := by
  obtain ⟨h1, h2, h3, h4, h5, h6, h7, h8, h9, h10⟩ := h
  subst hs2
  have q1 := sQp_opn h7 hk ho
  refine ⟨⟨h'.1, by omega, h'.2⟩, inS_5 _, rfl, h4, ?_, fun q => by (try dsimp only at q); omega, sQp_min q1 hk2 (by rw [up_eq]; decide) (up_eq _ _ _) (up_eq _ _ _), fun w => ?_, fun l a c => ?_, by omega, by omega⟩
  · rw [up_eq]
    exact ⟨fun q => by (try dsimp only at q); omega, fun q => by (try dsimp only at q); omega⟩
  · refine ⟨sV_min (M := up M (o + 1) 0) q1 (sV_opn h7 (h8 w).1 hk ho) hk2 (by rw [up_eq]; decide) (fun q => q.2 (by rw [show t + 1 - 1 = t by omega]; exact hk)) ?_, sD_opn h7.2.1.1 (h8 w).2⟩
    funext x
    unfold up
    split <;> rfl
  · by_cases q : l = o + 1
    · rw [q, up_eq]; exact .inr rfl
    · rw [up_ne q]; exact h9 l a (by omega)
theorem sm_pm (h : smL al b N V lm fr C0 rest s t o H M F L BE C CO CI W) (h' : stT al b N (t + 1).toNat = some (5, s.2) ∧ t + 1 ≤ 400) (hf : 0 < F o) (hk : kK b N t = 9 ∨ kK b N t = 10) (e : etQ o H M F L BE C CO CI H' F' L' BE' C' CO' CI') (e2 : M' = up M o (if kK b N t = 10 then 1 else 0)) : smL al b N V lm fr C0 rest (5, s.2) (t + 1) o H' M' F' L' BE' C' CO' CI' W := by
  obtain ⟨h1, h2, h3, h4, h5, h6, h7, h8, h9, h10⟩ := h
  have c := et_b e
  refine ⟨⟨h'.1, by omega, h'.2⟩, inS_5 _, h3, h4, ?_, fun q => by (try dsimp only at q); omega, sQp_pm h7 hk e, fun w => ⟨sV_pm h7 (h8 w).1 hf hk e e2, sD_et h7.2.1 (fun l a c => (h7.2.2.2.2.1 l a c).2) hf (h8 w).2 e⟩, fun l a d => ?_, by omega, by omega⟩
  · rw [e.2.1, up_eq]
    exact ⟨fun q => by (try dsimp only at q); omega, fun q => by (try dsimp only at q); omega⟩
  · rw [e2]
    by_cases q : l = o
    · rw [q, up_eq]; split <;> simp
    · rw [up_ne q]; exact h9 l a d
theorem sm_cls {F1 L1 F2 L2 : Int → Int} {C1 C2 : Int} {CO1 CI1 CO2 CI2 : Int → Int} (h : smL al b N V lm fr C0 rest s t o H M F L BE C CO CI W) (h' : stT al b N (t + 1).toNat = some (6, s.2.1 - 1, s.2.2) ∧ t + 1 ≤ 400) (hf : 0 < F o) (hk : kK b N t = 12) (ho : 1 ≤ o) (e : etQ o H M F L BE C CO CI H' F1 L1 BE' C1 CO1 CI1) (g : faQ (o - 1) (BE' o) F1 L1 C1 CO1 CI1 F2 L2 C2 CO2 CI2) : smL al b N V lm fr C0 rest (6, s.2.1 - 1, s.2.2) (t + 1) (o - 1) H' M F2 L2 BE' C2 CO2 CI2 W := by
  obtain ⟨h1, h2, h3, h4, h5, h6, h7, h8, h9, h10⟩ := h
  have c := et_b e
  have hF := (h7.2.2.2.2.1 (o - 1) (by omega) (by omega)).1
  refine ⟨⟨h'.1, by omega, h'.2⟩, inS_6 _, by dsimp only; omega, h4, ?_, fun q => by (try dsimp only at q); omega, sQp_cls h7 hk ho e g, fun w => ⟨sV_cls h7 (h8 w).1 hf hk ho e g, sD_cls ⟨ho, h7.2.1.2⟩ (fun l a c => (h7.2.2.2.2.1 l a c).2) hf hF.1 (h8 w).2 e g⟩, fun l a d => h9 l a (by omega), ?_, ?_⟩
  · rw [g.1, up_eq, e.2.1, up_ne (by omega)]
    exact ⟨fun _ => rfl, fun _ => by omega⟩
  · rcases g.2.2 with q | q <;> omega
  · rcases g.2.2 with q | q <;> omega
theorem sm_end (h : smL al b N V lm fr C0 rest s t o H M F L BE C CO CI W) (hf : 0 < F o) (ho : o = 0) (e : etQ o H M F L BE C CO CI H' F' L' BE' C' CO' CI') (hn : tp b N t.toNat < N → ¬ (kK b N t = 5 ∨ kK b N t = 9 ∨ kK b N t = 10 ∨ kK b N t = 11)) : smE al b N V lm fr C0 rest t BE' C' CO' CI' W := by
  obtain ⟨h1, h2, h3, h4, h5, h6, h7, h8, h9, h10⟩ := h
  have c := et_b e
  have hl := h7.2.2.2.2.2 hf
  obtain ⟨A, B, k1, k2, k3⟩ := h7.2.2.1
  have kb := lb_at h7.2.1.1 k2 (l := 0) ⟨Int.le_refl 0, h7.2.1.1⟩
  have k30 := k3 0 (Int.le_refl 0) h7.2.1.1
  refine ⟨⟨?_, h1.2⟩, hl.1, h7.2.2.2.1, hn, fun m hm => sQ_end h7 ho e hm, ?_, by omega, fun w => ?_, fun w m n D p hm hO hN => (sV_end h7 (h8 w).1 hf ho e hm hO hN).2⟩
  · rw [h1.1]
    obtain ⟨s1, s2, s3⟩ := s
    have a1 : s1 = 6 := h5.mp hf
    have a2 : s2 = o := h3
    have a3 : s3 = rest := h4
    rw [a1, a2, a3, ho]
  · rw [e.2.2.2.1, if_pos ho.symm, ho, k30.1, k30.2]
    have := h7.1
    omega
  · have k := sD_et h7.2.1 (fun l a c => (h7.2.2.2.2.1 l a c).2) hf (h8 w).2 e
    refine ⟨k.2.1, ?_⟩
    rw [k.2.2, ho, lvD_t (Int.le_refl 0), e.1, e.2.1, ho, up_eq, up_eq, tF_0 (Int.le_refl 0)]
    rfl
end SM
