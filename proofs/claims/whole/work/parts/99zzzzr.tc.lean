/-! sums told by tokens: only what is told counts -/
theorem rn_c {q q' : Int → Prop} {N i : Int} (hi : i ≤ N) (h : ∀ j, i ≤ j → j < N → (q j ↔ q' j)) : rn q N i = rn q' N i := by
  have k := rn_b (q := q') (N := N) (i := i) hi
  exact rn_eq k.1.1 k.1.2 (fun j a b => (h j a (by omega)).mpr (k.2.1 j a b)) (fun b g => k.2.2 b ((h _ k.1.1 b).mp g))
theorem enD_c {K K' : Int → Int} {m fr : Int} (hf : fr ≤ m) (h : ∀ j, fr ≤ j → j < m → K j = K' j) : enD K m fr = enD K' m fr := rn_c hf (fun j a b => by rw [h j a b])
theorem lgN_c {K K' S T : Int → Int} {fr : Int} : ∀ k : Nat, (∀ j, fr ≤ j → j < fr + k → K j = K' j) → lgN K fr S T k = lgN K' fr S T k
  | 0, _ => rfl
  | k + 1, h => by
    show lgs K (fr + k) (lgN K fr S T k) = lgs K' (fr + k) (lgN K' fr S T k)
    rw [lgN_c k (fun j a b => h j a (by omega))]
    unfold lgs
    rw [h (fr + k) (by omega) (by omega)]
theorem lgV_c {K K' : Int → Int} {m fr : Int} (hf : fr ≤ m) (h : ∀ j, fr ≤ j → j < m → K j = K' j) : lgV K m fr = lgV K' m fr := by
  have e := enD_c hf h
  have b := enD_b (K := K) hf
  unfold lgV
  rw [← e, lgN_c (enD K m fr - fr).toNat (fun j a c => h j a (by omega))]
theorem evs_c {n D p fr i : Int} {K K' V V' : Int → Int} {s : evT} (h : K i = K' i) (h1 : fr < i → K (i - 1) = K' (i - 1)) (hv : K i = 5 ∨ K i = 6 → V i = V' i) : evs n D p K V fr i s = evs n D p K' V' fr i s := by
  unfold evs
  rw [← h]
  by_cases c5 : K i = 5
  · rw [if_pos c5, if_pos c5, hv (.inl c5)]
  rw [if_neg c5, if_neg c5]
  by_cases c6 : K i = 6
  · rw [if_pos c6, if_pos c6, hv (.inr c6)]
  rw [if_neg c6, if_neg c6]
  by_cases c9 : K i = 9 ∨ K i = 10
  · rw [if_pos c9, if_pos c9]
    by_cases c : fr < i
    · rw [h1 c]
    · rw [if_neg (show ¬ (fr < i ∧ ¬ K (i - 1) = 11) from fun q => c q.1), if_neg (show ¬ (fr < i ∧ ¬ K' (i - 1) = 11) from fun q => c q.1)]
  · rw [if_neg c9, if_neg c9]
theorem evN_c {n D p fr : Int} {K K' V V' S T : Int → Int} : ∀ k : Nat, (∀ j, fr ≤ j → j < fr + k → K j = K' j ∧ (K j = 5 ∨ K j = 6 → V j = V' j)) → evN n D p K V fr S T k = evN n D p K' V' fr S T k
  | 0, _ => rfl
  | k + 1, h => by
    show evs n D p K V fr (fr + k) (evN n D p K V fr S T k) = evs n D p K' V' fr (fr + k) (evN n D p K' V' fr S T k)
    rw [evN_c k (fun j a b => h j a (by omega))]
    have e := h (fr + k) (by omega) (by omega)
    exact evs_c e.1 (fun c => (h (fr + k - 1) (by omega) (by omega)).1) e.2
theorem evV_c {n D p m fr : Int} {K K' V V' : Int → Int} (hf : fr ≤ m) (hK : ∀ j, fr ≤ j → j < m → K j = K' j) (hV : ∀ j, fr ≤ j → j < enD K m fr → K j = 5 ∨ K j = 6 → V j = V' j) : evV n D p K V m fr = evV n D p K' V' m fr := by
  have e := enD_c hf hK
  have b := enD_b (K := K) hf
  unfold evV
  rw [← e, evN_c (enD K m fr - fr).toNat (fun j a c => ⟨hK j a (by omega), hV j a (by omega)⟩)]
theorem evV_v {n D p m fr : Int} {K V V' : Int → Int} (hV : ∀ j, fr ≤ j → j < enD K m fr → K j = 5 ∨ K j = 6 → V j = V' j) : evV n D p K V m fr = evV n D p K V' m fr := by
  unfold evV
  rw [evN_c (enD K m fr - fr).toNat (fun j a c => ⟨rfl, hV j a (by omega)⟩)]
theorem smF_v {K V V' CO CI : Int → Int} {lm fr e C0 C : Int} (h : smF K V lm fr e C0 C CO CI) (g : ∀ j, fr ≤ j → j < e → K j = 5 ∨ K j = 6 → V j = V' j) : smF K V' lm fr e C0 C CO CI := by
  refine ⟨h.1, h.2.1, fun m n D p e1 hO hv => ?_⟩
  obtain ⟨q, q1, q2⟩ := h.2.2 m n D p e1 hO (fun j a b c => by rw [g j a b (.inl c)]; exact hv j a b c)
  refine ⟨q, q1, fun x a b => ?_⟩
  rw [q2 x a b, evV_v (fun j a b => g j a (by rw [← e1]; exact b))]
theorem lwM_v {K V V' CO CI : Int → Int} {lm W tk t lf mid to lg : Int} (h : lwM K V lm W CO CI tk t lf mid to lg) (g : ∀ j, tk < j → j < t → K j = 5 ∨ K j = 6 → V j = V' j) : lwM K V' lm W CO CI tk t lf mid to lg := by
  obtain ⟨h1, h2, e, h3, h4⟩ := h
  refine ⟨h1, h2, e, h3, ?_⟩
  rcases h4 with ⟨a, b, c, d, f⟩ | ⟨a, b, e2, c, d, f, i, j⟩
  · exact .inl ⟨a, b, c, d, fun w => smF_v (f w) (fun x x0 x1 k => g x (by omega) (by omega) k)⟩
  · have c1 := c.1
    have c2 := h3.1
    exact .inr ⟨a, b, e2, c, d, f, i, fun w => ⟨smF_v (j w).1 (fun x x0 x1 k => g x (by omega) (by omega) k), smF_v (j w).2 (fun x x0 x1 k => g x (by omega) (by omega) k)⟩⟩
theorem lwM_c {K V CO CI CO' CI' : Int → Int} {lm W tk t lf mid to lg C1 : Int} (h : lwM K V lm W CO CI tk t lf mid to lg) (hC : to ≤ C1) (g : cuQ C1 CO CI CO' CI') : lwM K V lm W CO' CI' tk t lf mid to lg := by
  obtain ⟨h1, h2, e, h3, h4⟩ := h
  refine ⟨h1, h2, e, h3, ?_⟩
  rcases h4 with ⟨a, b, c, d, f⟩ | ⟨a, b, e2, c, d, f, i, j⟩
  · exact .inl ⟨a, b, c, d, fun w => smF_c (f w) h1.2.1 hC g⟩
  · exact .inr ⟨a, b, e2, c, d, f, i, fun w => ⟨smF_c (j w).1 b.1 (by omega) g, smF_c (j w).2 b.2 hC g⟩⟩
theorem lwM_k {K V CO CI : Int → Int} {lm W tk t lf mid to lg : Int} (h : lwM K V lm W CO CI tk t lf mid to lg) : tk + 2 < t ∧ K (t - 1) = 7 ∧ K tk = 4 ∧ ∀ j, tk < j → j < t → 5 ≤ K j := by
  obtain ⟨h1, h2, e, h3, h4⟩ := h
  have c2 := h3.1
  rcases h4 with ⟨a, b, c, d, f⟩ | ⟨a, b, e2, c, d, f, i, j⟩
  · refine ⟨by omega, by rw [show t - 1 = e by omega]; exact a, h2, fun j x y => ?_⟩
    by_cases q : j = e
    · rw [q]; omega
    · have := h3.2 j (by omega) (by omega); omega
  · have c1 := c.1
    refine ⟨by omega, by rw [show t - 1 = e2 by omega]; exact d, h2, fun j x y => ?_⟩
    by_cases q : j = e
    · rw [q]; omega
    by_cases q2 : j = e2
    · rw [q2]; omega
    rcases Int.lt_or_le j e with r | r
    · have := h3.2 j (by omega) (by omega); omega
    · have := c.2 j (by omega) (by omega); omega
/-! the words of a text, told by its bytes alone -/
noncomputable def pT (b : Int → Int) (N j : Int) : Int := tp b N j.toNat
noncomputable def s0P (b : Int → Int) (N : Int) : wS := (0, fun _ => 0, 97, 0, 0, dfI b N)
noncomputable def uT (b : Int → Int) (N t : Int) : wS := twI (kK b N) (pT b N) (nm32 b N) (s0P b N) t.toNat
def tZ (b : Int → Int) (N t : Int) : Prop := twZ (kK b N) (pT b N) (nm32 b N) (s0P b N) t
noncomputable def tFx (b : Int → Int) (N i : Int) : Int := (tw (kK b N) (pT b N) (nm32 b N) i (uT b N i)).1
noncomputable def vP (b : Int → Int) (N j : Int) : Int := (uT b N (j + 1)).2.2.2.2.2 j
theorem tw_o {K PL PK : Int → Int} {i j : Int} {s : wS} (h : ¬ j = i ∨ ¬ K i = 5) : (tw K PL PK i s).2.2.2.2.2.2 j = s.2.2.2.2.2 j := by
  obtain ⟨m, NM, pr, dg, dp, NU⟩ := s
  by_cases h5 : K i = 5
  · have hj : ¬ j = i := h.resolve_right (fun q => q h5)
    by_cases c : pvK K i = 2
    · by_cases g : fd NM (PK i) m < m ∨ 4 ≤ m
      · rw [tw_t h5 c g]; exact nuF_o hj
      · rw [tw_l h5 c g]
    · rw [tw_n h5 c]; exact nuF_o hj
  · by_cases c : pvK K i = 1
    · rw [tw_1 h5 c]
    · by_cases c3 : pvK K i = 3
      · rw [tw_3 h5 c3]
      · rw [tw_0 h5 c c3]
section UT
variable {b : Int → Int} {N t i j : Int}
theorem uT_s (ht : 0 ≤ t) : uT b N (t + 1) = (tw (kK b N) (pT b N) (nm32 b N) t (uT b N t)).2 := twI_s ht rfl
theorem tZ_s (h : tZ b N t) (g : tFx b N t = 0) : tZ b N (t + 1) := twZ_s h rfl g
theorem tZ_le (h : tZ b N t) (hi : i ≤ t) : tZ b N i := fun j a c => h j a (by omega)
theorem uT_k (hj : 0 ≤ j) : ∀ k : Nat, (uT b N (j + 1 + k)).2.2.2.2.2 j = vP b N j
  | 0 => by rw [show j + 1 + ((0 : Nat) : Int) = j + 1 by omega]; rfl
  | k + 1 => by
    rw [show j + 1 + ((k + 1 : Nat) : Int) = j + 1 + k + 1 by omega, uT_s (by omega), tw_o (.inl (by omega))]
    exact uT_k hj k
theorem uT_v (hj : 0 ≤ j ∧ j < t) : (uT b N t).2.2.2.2.2 j = vP b N j := by
  have e := uT_k (b := b) (N := N) hj.1 (t - (j + 1)).toNat
  rw [show j + 1 + (((t - (j + 1)).toNat : Nat) : Int) = t by omega] at e
  exact e
theorem uT_n0 (hk : ¬ kK b N j = 5) : ∀ k : Nat, (uT b N k).2.2.2.2.2 j = dfI b N j
  | 0 => rfl
  | k + 1 => by
    rw [show ((k + 1 : Nat) : Int) = (k : Int) + 1 by omega, uT_s (by omega), tw_o]
    · exact uT_n0 hk k
    · by_cases q : j = k
      · rw [← q]; exact .inr hk
      · exact .inl q
theorem uT_n (ht : 0 ≤ t) (hk : ¬ kK b N j = 5) : (uT b N t).2.2.2.2.2 j = dfI b N j := by
  have e := uT_n0 hk t.toNat
  rw [show ((t.toNat : Nat) : Int) = t by omega] at e
  exact e
theorem vP_n (hj : 0 ≤ j) (hk : ¬ kK b N j = 5) : vP b N j = dfI b N j := uT_n (by omega) hk
/-- a token that tells nothing -/
theorem uT_neu (ht : 0 ≤ t) (h5 : ¬ kK b N t = 5) (h1 : ¬ pvK (kK b N) t = 1) (h3 : ¬ pvK (kK b N) t = 3) (hZ : tZ b N t) : tZ b N (t + 1) ∧ uT b N (t + 1) = uT b N t := by
  have e : tw (kK b N) (pT b N) (nm32 b N) t (uT b N t) = (0, uT b N t) := by
    obtain ⟨⟨m, NM, pr, dg, dp, NU⟩, es⟩ : ∃ s, uT b N t = s := ⟨_, rfl⟩
    rw [es]
    exact tw_0 h5 h1 h3
  refine ⟨tZ_s hZ ?_, ?_⟩
  · show (tw (kK b N) (pT b N) (nm32 b N) t (uT b N t)).1 = 0
    rw [e]
  · rw [uT_s ht, e]
theorem pv_s (ht : 0 ≤ t) : pvK (kK b N) (t + 1) = kK b N t := by
  unfold pvK
  rw [if_pos (by omega), Int.add_sub_cancel]
end UT
theorem tok_nm {b : Int → Int} {N j : Int} (hl : tp b N j.toNat < N) (h5 : kK b N j = 5) : nmR (nm32 b N j) (nm27 b N j) := by
  have k := tok_5 hl h5
  have g := te_b (b := b) hl
  exact ⟨b, tp b N j.toNat, (te b N (tp b N j.toNat) - tp b N j.toNat).toNat, by omega, fun x x0 x1 => k.2 _ (by omega) (by omega), rfl, rfl⟩
theorem fd_nm {NM NO : Int → Int} {q x m : Int} (hm : 0 ≤ m) (h : ∀ j, 0 ≤ j → j < m → nmR (NM j) (NO j)) (g : nmR q x) : fd NM q m = fd NO x m := rn_c hm (fun j a c => not_congr (nmR_eq (h j a c) g))
theorem fd_lt {NM : Int → Int} {q m : Int} (hm : 0 ≤ m) : fd NM q m < m ↔ ∃ j, (0 ≤ j ∧ j < m) ∧ NM j = q := by
  have k := rn_b (q := fun j => ¬ NM j = q) (N := m) (i := 0) hm
  constructor
  · intro h
    exact ⟨_, ⟨k.1.1, h⟩, Classical.not_not.mp (k.2.2 h)⟩
  · rintro ⟨j, hj, e⟩
    rcases Int.lt_or_le (fd NM q m) m with c | c
    · exact c
    · exact absurd e (k.2.1 j hj.1 (by have : fd NM q m ≤ rn (fun j => ¬ NM j = q) m 0 := Int.le_refl _; omega))
/-! the reference behind some statements -/
def rW (b : Int → Int) (N t W WP : Int) : Prop := ¬ W = 0 ∧ ∃ i, (0 ≤ i ∧ i < t) ∧ tZ b N i ∧ W = tFx b N i ∧ WP = tp b N i.toNat
def rG (b : Int → Int) (N t LE : Int) (NO : Int → Int) (PR DG DT : Int) : Prop := tZ b N t ∧ (uT b N t).1 = LE ∧ (∀ j, 0 ≤ j → j < LE → nmR ((uT b N t).2.1 j) (NO j)) ∧ (uT b N t).2.2.1 = PR ∧ (uT b N t).2.2.2.1 = DG ∧ (¬ DG = 0 → (uT b N t).2.2.2.2.1 = tp b N DT.toNat ∧ 0 ≤ DT ∧ DT < t)
def rL (b : Int → Int) (N t LE C : Int) (CO CI LT LF LM LO LG : Int → Int) : Prop := ∀ j, 0 ≤ j → j < t → kK b N j = 4 → LT (cLw (kK b N) j) = j ∧ ∃ lm e, lm ≤ LE ∧ e ≤ t ∧ LO (cLw (kK b N) j) ≤ C ∧ lwM (kK b N) (vP b N) lm 0 CO CI j e (LF (cLw (kK b N) j)) (LM (cLw (kK b N) j)) (LO (cLw (kK b N) j)) (LG (cLw (kK b N) j))
def rI (b : Int → Int) (N t W WP LE : Int) (NO : Int → Int) (PR DG DT C : Int) (CO CI LT LF LM LO LG : Int → Int) : Prop := (t = 0 ∨ kK b N (t - 1) = 7) ∧ (rW b N t W WP ∨ (W = 0 ∧ rG b N t LE NO PR DG DT ∧ rL b N t LE C CO CI LT LF LM LO LG))
section RI
variable {b : Int → Int} {N t t' W WP W0 P0 LE LE' PR DG DT C : Int} {NO NO' CO CI LT LF LM LO LG : Int → Int}
theorem rW_up (h : rW b N t W0 P0) (ht : t ≤ t') (e : W = W0) (e2 : WP = P0) : rW b N t' W WP := by
  obtain ⟨h1, i, h2, h3, h4, h5⟩ := h
  exact ⟨by omega, i, by omega, h3, by omega, by omega⟩
theorem rL_up (h : rL b N t LE C CO CI LT LF LM LO LG) (ht : t ≤ t') (g : ∀ j, t ≤ j → j < t' → ¬ kK b N j = 4) (hL : LE ≤ LE') : rL b N t' LE' C CO CI LT LF LM LO LG := fun j a c k => by
  rcases Int.lt_or_le j t with q | q
  · obtain ⟨h1, lm, e, h2, h3, h4, h5⟩ := h j a q k
    exact ⟨h1, lm, e, by omega, by omega, h4, h5⟩
  · exact absurd k (g j q c)
theorem r_bnd (ht : 0 ≤ t) (h : t = 0 ∨ kK b N (t - 1) = 7) : ¬ pvK (kK b N) t = 1 ∧ ¬ pvK (kK b N) t = 2 ∧ ¬ pvK (kK b N) t = 3 := by
  unfold pvK
  by_cases c : 0 < t
  · rw [if_pos c]
    rcases h with h | h
    · omega
    · omega
  · rw [if_neg c]; omega
theorem r_0 : rI b N 0 0 WP 0 NO 97 0 DT C CO CI LT LF LM LO LG := by
  refine ⟨.inl rfl, .inr ⟨rfl, ⟨fun j a c => by omega, rfl, fun j a c => by omega, rfl, rfl, fun q => absurd rfl q⟩, fun j a c => by omega⟩⟩
/-- a prime, a degree -/
theorem r_pr {v : Int} (ht : 0 ≤ t) (h : rI b N t W0 P0 LE NO PR DG DT C CO CI LT LF LM LO LG) (k1 : kK b N t = 1) (k2 : kK b N (t + 1) = 6) (k3 : kK b N (t + 2) = 7) (hv : v = dfI b N (t + 1)) (g : wrQ (¬ sPr v) W0 P0 5 (tp b N (t + 1).toNat) W WP) : rI b N (t + 3) W WP LE NO v DG DT C CO CI LT LF LM LO LG := by
  obtain ⟨hb, h⟩ := h
  refine ⟨.inr (by rw [show t + 3 - 1 = t + 2 by omega]; exact k3), ?_⟩
  have pv := r_bnd ht hb
  rcases h with h | ⟨w0, hG, hL⟩
  · have h1 := h.1
    rcases g with g | g | g
    · exact .inl (rW_up h (by omega) g.2.1 g.2.2)
    · exact absurd g.1 h1
    · exact absurd g.1 h1
  have n0 := uT_neu ht (by omega) pv.1 pv.2.2 hG.1
  have hp1 : pvK (kK b N) (t + 1) = 1 := by rw [pv_s ht]; exact k1
  have hp2 : pvK (kK b N) (t + 1 + 1) = 6 := by rw [pv_s (by omega)]; exact k2
  obtain ⟨⟨m, NM, pr, dg, dp, NU⟩, es⟩ : ∃ s, uT b N t = s := ⟨_, rfl⟩
  have hn : NU (t + 1) = v := by
    have e := uT_n (b := b) (N := N) (t := t) (j := t + 1) ht (by omega)
    rw [es] at e
    rw [hv]; exact e
  have e1 : tw (kK b N) (pT b N) (nm32 b N) (t + 1) (uT b N (t + 1)) = (prF v, (m, NM, v, dg, dp, NU)) := by
    rw [n0.2, es, tw_1 (by omega) hp1, hn]
  rcases g with g | g | g
  · exact absurd w0 g.1
  · obtain ⟨_, g2, g3, g4⟩ := g
    have z1 : tZ b N (t + 1 + 1) := tZ_s n0.1 (by
      show (tw (kK b N) (pT b N) (nm32 b N) (t + 1) (uT b N (t + 1))).1 = 0
      rw [e1]; exact prF_0 (Classical.not_not.mp g2))
    have n2 := uT_neu (t := t + 1 + 1) (by omega) (by rw [show t + 1 + 1 = t + 2 by omega]; omega) (by omega) (by omega) z1
    rw [uT_s (t := t + 1) (by omega), e1, show t + 1 + 1 + 1 = t + 3 by omega] at n2
    refine .inr ⟨g3, ⟨n2.1, ?_⟩, rL_up hL (by omega) (fun j a c q => by rcases (show j = t ∨ j = t + 1 ∨ j = t + 2 by omega) with r | r | r <;> rw [r] at q <;> omega) (Int.le_refl _)⟩
    rw [n2.2]
    obtain ⟨_, f1, f2, f3, f4, f5⟩ := hG
    rw [es] at f1 f2 f4 f5
    exact ⟨f1, f2, rfl, f4, fun q => ⟨(f5 q).1, (f5 q).2.1, by have := (f5 q).2.2; omega⟩⟩
  · obtain ⟨_, g2, g3, g4⟩ := g
    refine .inl ⟨by omega, t + 1, by omega, n0.1, ?_, g4⟩
    show W = (tw (kK b N) (pT b N) (nm32 b N) (t + 1) (uT b N (t + 1))).1
    rw [e1, g3]; exact (prF_5 g2).symm
theorem r_dg {v : Int} (ht : 0 ≤ t) (h : rI b N t W0 P0 LE NO PR DG DT C CO CI LT LF LM LO LG) (k1 : kK b N t = 3) (k2 : kK b N (t + 1) = 6) (k3 : kK b N (t + 2) = 7) (hv : v = dfI b N (t + 1)) (g : wrQ (¬ (1 ≤ v ∧ v ≤ 7)) W0 P0 5 (tp b N (t + 1).toNat) W WP) : rI b N (t + 3) W WP LE NO PR v (t + 1) C CO CI LT LF LM LO LG := by
  obtain ⟨hb, h⟩ := h
  refine ⟨.inr (by rw [show t + 3 - 1 = t + 2 by omega]; exact k3), ?_⟩
  have pv := r_bnd ht hb
  rcases h with h | ⟨w0, hG, hL⟩
  · have h1 := h.1
    rcases g with g | g | g
    · exact .inl (rW_up h (by omega) g.2.1 g.2.2)
    · exact absurd g.1 h1
    · exact absurd g.1 h1
  have n0 := uT_neu ht (by omega) pv.1 pv.2.2 hG.1
  have hp1 : pvK (kK b N) (t + 1) = 3 := by rw [pv_s ht]; exact k1
  have hp2 : pvK (kK b N) (t + 1 + 1) = 6 := by rw [pv_s (by omega)]; exact k2
  obtain ⟨⟨m, NM, pr, dg, dp, NU⟩, es⟩ : ∃ s, uT b N t = s := ⟨_, rfl⟩
  have hn : NU (t + 1) = v := by
    have e := uT_n (b := b) (N := N) (t := t) (j := t + 1) ht (by omega)
    rw [es] at e
    rw [hv]; exact e
  have e1 : tw (kK b N) (pT b N) (nm32 b N) (t + 1) (uT b N (t + 1)) = (dgF v, (m, NM, pr, v, tp b N (t + 1).toNat, NU)) := by
    rw [n0.2, es, tw_3 (by omega) hp1, hn]; rfl
  rcases g with g | g | g
  · exact absurd w0 g.1
  · obtain ⟨_, g2, g3, g4⟩ := g
    have z1 : tZ b N (t + 1 + 1) := tZ_s n0.1 (by
      show (tw (kK b N) (pT b N) (nm32 b N) (t + 1) (uT b N (t + 1))).1 = 0
      rw [e1]; exact if_pos (Classical.not_not.mp g2))
    have n2 := uT_neu (t := t + 1 + 1) (by omega) (by rw [show t + 1 + 1 = t + 2 by omega]; omega) (by omega) (by omega) z1
    rw [uT_s (t := t + 1) (by omega), e1, show t + 1 + 1 + 1 = t + 3 by omega] at n2
    refine .inr ⟨g3, ⟨n2.1, ?_⟩, rL_up hL (by omega) (fun j a c q => by rcases (show j = t ∨ j = t + 1 ∨ j = t + 2 by omega) with r | r | r <;> rw [r] at q <;> omega) (Int.le_refl _)⟩
    rw [n2.2]
    obtain ⟨_, f1, f2, f3, f4, f5⟩ := hG
    rw [es] at f1 f2 f3
    exact ⟨f1, f2, f3, rfl, fun q => ⟨rfl, by omega, by omega⟩⟩
  · obtain ⟨_, g2, g3, g4⟩ := g
    refine .inl ⟨by omega, t + 1, by omega, n0.1, ?_, g4⟩
    show W = (tw (kK b N) (pT b N) (nm32 b N) (t + 1) (uT b N (t + 1))).1
    rw [e1, g3]; exact (if_neg g2).symm
/-- a letter -/
theorem r_le (ht : 0 ≤ t) (h : rI b N t W0 P0 LE NO PR DG DT C CO CI LT LF LM LO LG) (k1 : kK b N t = 2) (k2 : kK b N (t + 1) = 5) (k3 : kK b N (t + 2) = 7) (hl : tp b N (t + 1).toNat < N) (hm : 0 ≤ LE ∧ LE ≤ 3) (g : wlQ NO (nm27 b N (t + 1)) LE W0 P0 (tp b N (t + 1).toNat) W WP) (e1 : ∀ j, 0 ≤ j → j < LE → NO' j = NO j) (e2 : NO' LE = nm27 b N (t + 1)) : rI b N (t + 3) W WP (LE + 1) NO' PR DG DT C CO CI LT LF LM LO LG := by
  obtain ⟨hb, h⟩ := h
  refine ⟨.inr (by rw [show t + 3 - 1 = t + 2 by omega]; exact k3), ?_⟩
  have pv := r_bnd ht hb
  rcases h with h | ⟨w0, hG, hL⟩
  · have h1 := h.1
    rcases g with g | g | g
    · exact .inl (rW_up h (by omega) g.2.1 g.2.2)
    · exact absurd g.1 h1
    · exact absurd g.1 h1
  have n0 := uT_neu ht (by omega) pv.1 pv.2.2 hG.1
  have hp1 : pvK (kK b N) (t + 1) = 2 := by rw [pv_s ht]; exact k1
  have hp2 : pvK (kK b N) (t + 1 + 1) = 5 := by rw [pv_s (by omega)]; exact k2
  obtain ⟨⟨m, NM, pr, dg, dp, NU⟩, es⟩ : ∃ s, uT b N t = s := ⟨_, rfl⟩
  obtain ⟨_, f1, f2, f3, f4, f5⟩ := hG
  rw [es] at f1 f2 f3 f4 f5
  have f1 : m = LE := f1
  subst f1
  have hnm := tok_nm hl k2
  have hfd : fd NM (nm32 b N (t + 1)) m < m ↔ ∃ j, (0 ≤ j ∧ j < m) ∧ NO j = nm27 b N (t + 1) := by
    rw [fd_nm hm.1 f2 hnm]; exact fd_lt hm.1
  rcases g with g | g | g
  · exact absurd w0 g.1
  · obtain ⟨_, g2, g3, g4⟩ := g
    have hno : ¬ (fd NM (nm32 b N (t + 1)) m < m ∨ 4 ≤ m) := fun q => by
      rcases q with q | q
      · obtain ⟨j, hj, e⟩ := hfd.mp q
        exact g4 j hj.1 hj.2 e
      · omega
    have e9 : tw (kK b N) (pT b N) (nm32 b N) (t + 1) (uT b N (t + 1)) = (0, (m + 1, up NM m (nm32 b N (t + 1)), pr, dg, dp, NU)) := by
      rw [n0.2, es, tw_l k2 hp1 hno]
    have z1 : tZ b N (t + 1 + 1) := tZ_s n0.1 (by
      show (tw (kK b N) (pT b N) (nm32 b N) (t + 1) (uT b N (t + 1))).1 = 0
      rw [e9])
    have n2 := uT_neu (t := t + 1 + 1) (by omega) (by rw [show t + 1 + 1 = t + 2 by omega]; omega) (by omega) (by omega) z1
    rw [uT_s (t := t + 1) (by omega), e9, show t + 1 + 1 + 1 = t + 3 by omega] at n2
    refine .inr ⟨g2, ⟨n2.1, ?_⟩, rL_up hL (by omega) (fun j a c q => by rcases (show j = t ∨ j = t + 1 ∨ j = t + 2 by omega) with r | r | r <;> rw [r] at q <;> omega) (by omega)⟩
    rw [n2.2]
    refine ⟨rfl, fun j a c => ?_, f3, f4, fun q => ⟨(f5 q).1, (f5 q).2.1, by have := (f5 q).2.2; omega⟩⟩
    show nmR (up NM m (nm32 b N (t + 1)) j) (NO' j)
    by_cases q : j = m
    · rw [q, up_eq, e2]; exact hnm
    · rw [up_ne q, e1 j a (by omega)]; exact f2 j a (by omega)
  · obtain ⟨_, g2, g3, j, hj, g4⟩ := g
    have hyes : fd NM (nm32 b N (t + 1)) m < m ∨ 4 ≤ m := .inl (hfd.mpr ⟨j, hj, g4⟩)
    refine .inl ⟨by omega, t + 1, by omega, n0.1, ?_, g3⟩
    show W = (tw (kK b N) (pT b N) (nm32 b N) (t + 1) (uT b N (t + 1))).1
    rw [n0.2, es, tw_t k2 hp1 hyes, g2]
/-- words of a law -/
theorem r_run {m pr dg dp : Int} {NM NU : Int → Int} (ht : 0 ≤ t) (hu : uT b N t = (m, NM, pr, dg, dp, NU)) (hZ : tZ b N t) (hpv : ∀ j, t ≤ j → j < t' → ¬ pvK (kK b N) j = 1 ∧ ¬ pvK (kK b N) j = 2 ∧ ¬ pvK (kK b N) j = 3) : ∀ k : Nat, t + k ≤ t' → (∀ j, t ≤ j → j < t + k → kK b N j = 5 → fd NM (nm32 b N j) m < m) → tZ b N (t + k) ∧ ∃ NU', uT b N (t + k) = (m, NM, pr, dg, dp, NU')
  | 0, _, _ => by rw [show t + ((0 : Nat) : Int) = t by omega]; exact ⟨hZ, NU, hu⟩
  | k + 1, h1, h2 => by
    obtain ⟨z, NU', e⟩ := r_run ht hu hZ hpv k (by omega) (fun j a c => h2 j a (by omega))
    have pv := hpv (t + k) (by omega) (by omega)
    rw [show t + ((k + 1 : Nat) : Int) = t + k + 1 by omega]
    by_cases h5 : kK b N (t + k) = 5
    · have e9 : tw (kK b N) (pT b N) (nm32 b N) (t + k) (uT b N (t + k)) = (0, (m, NM, pr, dg, dp, nuF NU' (t + k) (fd NM (nm32 b N (t + k)) m) m)) := by
        rw [e, tw_n h5 pv.2.1, if_pos (h2 (t + k) (by omega) (by omega) h5)]
      refine ⟨tZ_s z ?_, nuF NU' (t + k) (fd NM (nm32 b N (t + k)) m) m, ?_⟩
      · show (tw (kK b N) (pT b N) (nm32 b N) (t + k) (uT b N (t + k))).1 = 0
        rw [e9]
      · rw [uT_s (by omega), e9]
    · have n := uT_neu (by omega) h5 pv.1 pv.2.2 z
      exact ⟨n.1, NU', n.2.trans e⟩
/-- a law -/
theorem r_lw {C' mid to lg q : Int} {CO' CI' LT' LF' LM' LO' LG' : Int → Int} (ht : 0 ≤ t) (h : rI b N t W0 P0 LE NO PR DG DT C CO CI LT LF LM LO LG) (hm : 0 ≤ LE) (hlt : ∀ j, 0 ≤ j → j < t' → tp b N j.toNat < N) (g : wU b N NO LE (t + 1) t' W0 P0 W WP) (hr : lwM (kK b N) (vM b N NO LE) LE W CO' CI' t t' C mid to lg) (hq : q = cLw (kK b N) t) (e1 : LT' = up LT q t) (e2 : LF' = up LF q C) (e3 : LM' = up LM q mid) (e4 : LO' = up LO q to) (e5 : LG' = up LG q lg) (e6 : to = C') (hc : cuQ C CO CI CO' CI') : rI b N t' W WP LE NO PR DG DT C' CO' CI' LT' LF' LM' LO' LG' := by
  obtain ⟨hb, h⟩ := h
  have hk := lwM_k hr
  refine ⟨.inr hk.2.1, ?_⟩
  have pv := r_bnd ht hb
  rcases h with h | ⟨w0, hG, hL⟩
  · have h1 := h.1
    rcases g with g | g | g
    · exact .inl (rW_up h (by omega) g.2.1 g.2.2)
    · exact absurd g.1 h1
    · exact absurd g.1 h1
  obtain ⟨⟨m, NM, pr, dg, dp, NU⟩, es⟩ : ∃ s, uT b N t = s := ⟨_, rfl⟩
  obtain ⟨f0, f1, f2, f3, f4, f5⟩ := hG
  rw [es] at f1 f2 f3 f4 f5
  have f1 : m = LE := f1
  subst f1
  have hpv : ∀ j, t ≤ j → j < t' → ¬ pvK (kK b N) j = 1 ∧ ¬ pvK (kK b N) j = 2 ∧ ¬ pvK (kK b N) j = 3 := fun j a c => by
    rcases Int.lt_or_eq_of_le a with r | r
    · have e := pv_s (b := b) (N := N) (t := j - 1) (by omega)
      rw [Int.sub_add_cancel] at e
      rw [e]
      by_cases r2 : j - 1 = t
      · rw [r2]; omega
      · have := hk.2.2.2 (j - 1) (by omega) (by omega); omega
    · rw [← r]; exact pv
  have hfd : ∀ j, 0 ≤ j → j < t' → kK b N j = 5 → fd NM (nm32 b N j) m = fd NO (nm27 b N j) m := fun j a c k => fd_nm hm f2 (tok_nm (hlt j a c) k)
  have hrun := r_run ht es f0 hpv
  have key : ∀ i, t ≤ i → i ≤ t' → (∀ j, t + 1 ≤ j → j < i → kK b N j = 5 → ¬ uM b N NO m j) → tZ b N i ∧ ∃ NU', uT b N i = (m, NM, pr, dg, dp, NU') := fun i a c k => by
    have e := hrun (i - t).toNat (by omega) (fun j x y z => by
      have ne : ¬ j = t := fun r => by rw [r] at z; omega
      have e := k j (by omega) (by omega) z
      rw [hfd j (by omega) (by omega) z]
      have e7 := fd_b (NM := NO) (pk := nm27 b N j) hm
      unfold uM at e
      omega)
    rw [show t + (((i - t).toNat : Nat) : Int) = i by omega] at e
    exact e
  rcases g with g | ⟨_, g2, g3⟩ | ⟨_, g2, i, g3, g4, g5, g6, g7⟩
  · exact absurd w0 g.1
  · obtain ⟨z, NU', eu⟩ := key t' (by omega) (Int.le_refl _) g3
    refine .inr ⟨g2, ⟨z, ?_⟩, fun j a c k => ?_⟩
    · rw [eu]
      exact ⟨rfl, f2, f3, f4, fun r => ⟨(f5 r).1, (f5 r).2.1, by have := (f5 r).2.2; omega⟩⟩
    · rcases Int.lt_trichotomy j t with r | r | r
      · obtain ⟨h1, lm, e, h2, h3, h4, h5⟩ := hL j a r k
        have c1 := cLw_s (K := kK b N) a
        rw [if_pos k] at c1
        have c2 := (cLw_b (K := kK b N) (i := j + 1) (j := t) (by omega) (by omega)).2
        have hto := hr.1
        rw [e1, e2, e3, e4, e5, up_ne (by omega), up_ne (by omega), up_ne (by omega), up_ne (by omega), up_ne (by omega)]
        exact ⟨h1, lm, e, h2, by omega, by omega, lwM_c h5 h4 hc⟩
      · subst r
        rw [e1, e2, e3, e4, e5, hq, up_eq, up_eq, up_eq, up_eq, up_eq]
        rw [g2] at hr
        refine ⟨rfl, m, t', Int.le_refl _, Int.le_refl _, by omega, lwM_v hr (fun x x0 x1 x2 => ?_)⟩
        by_cases k6 : kK b N x = 6
        · rw [vP_n (by omega) (by omega)]
          exact if_pos k6
        · have k5 : kK b N x = 5 := by omega
          obtain ⟨_, NU2, eu2⟩ := key x (by omega) (by omega) (fun y y0 y1 => g3 y y0 (by omega))
          have e7 := fd_b (NM := NO) (pk := nm27 b N x) hm
          have e8 := g3 x (by omega) x1 k5
          unfold uM at e8
          have e9 := hfd x (by omega) x1 k5
          show (if kK b N x = 6 then dfI b N x else fd NO (nm27 b N x) m) = (uT b N (x + 1)).2.2.2.2.2 x
          rw [if_neg k6, uT_s (by omega), eu2, tw_n k5 (hpv x (by omega) x1).2.1]
          show _ = nuF NU2 x (fd NM (nm32 b N x) m) m x
          unfold nuF
          rw [if_pos (by omega), up_eq]
          exact e9.symm
      · have := hk.2.2.2 j r c
        omega
  · obtain ⟨z, NU', eu⟩ := key i (by omega) (by omega) g7
    refine .inl ⟨by omega, i, by omega, z, ?_, g6⟩
    show W = (tw (kK b N) (pT b N) (nm32 b N) i (uT b N i)).1
    have e9 := hfd i (by omega) g3.2 g4
    unfold uM at g5
    rw [eu, tw_n g4 (hpv i (by omega) g3.2).2.1, g2]
    show (4 : Int) = if fd NM (nm32 b N i) m < m then 0 else 4
    rw [if_neg (by omega)]
end RI
