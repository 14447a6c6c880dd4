/-! the reference's place in the automaton -/
def mO (al : Int) (b : Int → Int) (N : Int) (s : aS) (t F FP : Int) : Prop := (0 ≤ t ∧ t ≤ 400) ∧ ((F = 0 ∧ stT al b N t.toNat = some s) ∨ (¬ F = 0 ∧ tkO al b N t.toNat F FP))
theorem mkM_0 (k : Int) : 1 ≤ mkM k ∧ mkM k ≤ 23 := by
  unfold mkM
  by_cases h1 : k = 1
  · rw [if_pos h1]; decide
  rw [if_neg h1]
  by_cases h2 : k = 2
  · rw [if_pos h2]; decide
  rw [if_neg h2]
  by_cases h3 : k = 3
  · rw [if_pos h3]; decide
  rw [if_neg h3]
  by_cases h4 : k = 4
  · rw [if_pos h4]; decide
  rw [if_neg h4]
  by_cases h5 : k = 5
  · rw [if_pos h5]; decide
  rw [if_neg h5]
  by_cases h6 : k = 6
  · rw [if_pos h6]; decide
  rw [if_neg h6]
  by_cases h7 : k = 7
  · rw [if_pos h7]; decide
  rw [if_neg h7]
  by_cases h8 : k = 8
  · rw [if_pos h8]; decide
  rw [if_neg h8]
  by_cases h9 : k = 9
  · rw [if_pos h9]; decide
  rw [if_neg h9]
  by_cases h10 : k = 10
  · rw [if_pos h10]; decide
  rw [if_neg h10]
  by_cases h11 : k = 11
  · rw [if_pos h11]; decide
  rw [if_neg h11]
  by_cases h12 : k = 12
  · rw [if_pos h12]; decide
  rw [if_neg h12]; decide
theorem mkM_i {k l : Int} (hk : 0 ≤ k ∧ k ≤ 12) (hl : 0 ≤ l ∧ l ≤ 12) (h : mkM k = mkM l) : k = l := by
  have a : k = 0 ∨ k = 1 ∨ k = 2 ∨ k = 3 ∨ k = 4 ∨ k = 5 ∨ k = 6 ∨ k = 7 ∨ k = 8 ∨ k = 9 ∨ k = 10 ∨ k = 11 ∨ k = 12 := by omega
  have c : l = 0 ∨ l = 1 ∨ l = 2 ∨ l = 3 ∨ l = 4 ∨ l = 5 ∨ l = 6 ∨ l = 7 ∨ l = 8 ∨ l = 9 ∨ l = 10 ∨ l = 11 ∨ l = 12 := by omega
  rcases a with rfl | rfl | rfl | rfl | rfl | rfl | rfl | rfl | rfl | rfl | rfl | rfl | rfl <;> rcases c with rfl | rfl | rfl | rfl | rfl | rfl | rfl | rfl | rfl | rfl | rfl | rfl | rfl <;> first | rfl | exact absurd h (by decide)
/-- the kind of the t-th token in the reference's numbers, 0 at the end; its place -/
noncomputable def kM (b : Int → Int) (N t : Int) : Int := if N ≤ tp b N t.toNat then 0 else mkM (kK b N t)
noncomputable def pM (b : Int → Int) (N t : Int) : Int := if N ≤ tp b N t.toNat then N else tp b N t.toNat
theorem kM_b (b : Int → Int) (N t : Int) : 0 ≤ kM b N t ∧ kM b N t ≤ 23 := by
  unfold kM
  split
  · decide
  · have := mkM_0 (kK b N t); omega
section MO
variable {al N : Int} {b : Int → Int} {m t : Int} {K P V NM : Int → Int} {s s2 : aS}
theorem stT_lt2 (h : stT al b N t.toNat = some s) : ∀ j : Int, 0 ≤ j → j < t → tp b N j.toNat < N := fun j a c => by
  obtain ⟨u, v, _, _, e, _⟩ := stT_at h (j := j) ⟨a, by omega⟩
  exact e
theorem mo_k (hE : tkE b N m K P V NM) (ht : 0 ≤ t ∧ t ≤ 400) (h : stT al b N t.toNat = some s) : K t = kM b N t ∧ P t = pM b N t ∧ (tp b N t.toNat < N → (kK b N t = 6 → V t = df b (tp b N t.toNat) (te b N (tp b N t.toNat) - tp b N t.toNat).toNat) ∧ (kK b N t = 5 → NM t = wf 27 b (tp b N t.toNat) (te b N (tp b N t.toNat) - tp b N t.toNat).toNat)) := by
  have hl := stT_lt2 h
  obtain ⟨h1, h2, h3⟩ := hE
  rcases Int.lt_or_le t m with c | c
  · obtain ⟨a1, a2, a3, a4, a5⟩ := h2 t ht.1 c
    refine ⟨?_, ?_, fun _ => ⟨a4, a5⟩⟩
    · unfold kM; rw [if_neg (by omega)]; exact a2
    · unfold pM; rw [if_neg (by omega)]; exact a3
  · have e3 := h3 (by omega)
    have : t = m := by
      rcases Int.lt_or_le m t with q | q
      · have := hl m h1.1 q; omega
      · omega
    subst this
    refine ⟨?_, ?_, fun q => by omega⟩
    · unfold kM; rw [if_pos e3.1]; exact e3.2.1
    · unfold pM; rw [if_pos e3.1]; exact e3.2.2
theorem pM_b (hN : 0 ≤ N ∧ N ≤ 2000) (h : stT al b N t.toNat = some s) (ht : 0 ≤ t) : 0 ≤ pM b N t ∧ pM b N t ≤ 2000 := by
  unfold pM
  split
  · exact hN
  · have := tp_nn hN.1 t.toNat (b := b) (fun j a => by
      have := stT_lt2 h (j : Int) (by omega) (by omega)
      rw [show ((j : Int)).toNat = j by omega] at this
      exact this)
    omega
theorem mo_st {F FP : Int} (h : mO al b N s t F FP) (hF : F = 0) : stT al b N t.toNat = some s := by
  rcases h.2 with q | q
  · exact q.2
  · exact absurd hF q.1
theorem mo_F {F FP : Int} (h : mO al b N s t F FP) : 0 ≤ F ∧ F ≤ 2 := by
  rcases h.2 with q | q
  · omega
  · exact tkO_r q.2
theorem mo_re {F FP : Int} (h : mO al b N s t F FP) (hF : ¬ F = 0) : mO al b N s2 t F FP := ⟨h.1, .inr ⟨hF, h.2.elim (fun q => absurd q.1 hF) (fun q => q.2)⟩⟩
/-- a token taken -/
theorem mo_go {FP : Int} (ht : 0 ≤ t ∧ t ≤ 399) (h : stT al b N t.toNat = some s) (hl : tp b N t.toNat < N) (hg : gO al s (kK b N t) = some s2) (hB : auB s2) : mO al b N s2 (t + 1) 0 FP := by
  refine ⟨by omega, .inl ⟨rfl, ?_⟩⟩
  rw [show (t + 1).toNat = t.toNat + 1 by omega, stT_s h]
  exact nxt_ok hl hg (fun q => by
    unfold tmu at q
    obtain ⟨_, b2, b3, b4, _⟩ := hB
    omega)
/-- the last token that there is room for -/
theorem mo_400 (ht : t = 400) (h : stT al b N t.toNat = some s) (hl : tp b N t.toNat < N) (hg : gO al s (kK b N t) = some s2) : mO al b N s2 t 2 (tp b N t.toNat) := by
  refine ⟨by omega, .inr ⟨by decide, s, h, .inr (.inr ⟨hl, ?_, ?_, rfl⟩)⟩⟩
  · rw [flt_2 hg (.inl (by omega))]; decide
  · exact (flt_2 hg (.inl (by omega))).symm
/-- no room for what it opens or tells -/
theorem mo_room (ht : 0 ≤ t ∧ t ≤ 400) (h : stT al b N t.toNat = some s) (hl : tp b N t.toNat < N) {s3 : aS} (hg : gO al s (kK b N t) = some s3) (hm : 4 < s3.2.2.1 ∨ 8 < s3.2.2.2.1 ∨ 4 < s3.2.1) : mO al b N s2 t 2 (tp b N t.toNat) := by
  refine ⟨ht, .inr ⟨by decide, s, h, .inr (.inr ⟨hl, ?_, ?_, rfl⟩)⟩⟩
  · rw [flt_2 hg (.inr hm)]; decide
  · exact (flt_2 hg (.inr hm)).symm
/-- no text goes on so -/
theorem mo_bad (ht : 0 ≤ t ∧ t ≤ 400) (h : stT al b N t.toNat = some s) (hb : (N ≤ tp b N t.toNat ∧ ¬ whl al s) ∨ (tp b N t.toNat < N ∧ gO al s (kK b N t) = none)) : mO al b N s2 t 1 (pM b N t) := by
  refine ⟨ht, .inr ⟨by decide, s, h, ?_⟩⟩
  rcases hb with q | q
  · refine .inr (.inl ⟨q.1, q.2, rfl, ?_⟩)
    unfold pM; rw [if_pos q.1]
  · refine .inr (.inr ⟨q.1, ?_, ?_, ?_⟩)
    · rw [flt_1 q.2]; decide
    · exact (flt_1 q.2).symm
    · unfold pM; rw [if_neg (by omega)]
/-- which kind it is -/
theorem kM_is {k0 : Int} (hk : 1 ≤ k0 ∧ k0 ≤ 12) : kM b N t = mkM k0 ↔ tp b N t.toNat < N ∧ kK b N t = k0 := by
  have hb : 0 ≤ kK b N t ∧ kK b N t ≤ 12 := kd_b
  have h0 := mkM_0 k0
  unfold kM
  by_cases c : N ≤ tp b N t.toNat
  · rw [if_pos c]
    constructor
    · intro q; omega
    · intro q; omega
  · rw [if_neg c]
    constructor
    · intro q; exact ⟨by omega, mkM_i hb (by omega) q⟩
    · intro q; rw [q.2]
end MO
theorem mu_b {al N k0 t : Int} {b : Int → Int} {s s2 : aS} (hk : 1 ≤ k0 ∧ k0 ≤ 12) (hgo : ∀ q, gO al s q = if q = k0 then some s2 else none) (hw : ¬ whl al s) (h : ¬ kM b N t = mkM k0) : (N ≤ tp b N t.toNat ∧ ¬ whl al s) ∨ (tp b N t.toNat < N ∧ gO al s (kK b N t) = none) := by
  by_cases c : N ≤ tp b N t.toNat
  · exact .inl ⟨c, hw⟩
  · refine .inr ⟨by omega, ?_⟩
    rw [hgo, if_neg]
    intro e
    exact h ((kM_is hk).mpr ⟨by omega, e⟩)
theorem gO_4m {al : Int} {s : aS} (h : s.1 = 4) : gO al s 10 = some (5, s.2) := by
  unfold gO
  rw [if_neg (by omega), if_neg (by omega), if_neg (by omega), if_neg (by omega), if_pos h, if_pos rfl]
theorem aB_d {s : aS} {x : Int} (h : auB s) (hx : 0 ≤ x ∧ x ≤ 6) : auB (x, s.2) := ⟨hx, h.2⟩
section GOX
variable {al k : Int} {s : aS}
theorem fB_n (h : ¬ (k = 5 ∨ k = 11)) : fB s k = none := by
  unfold fB
  rw [if_neg (by omega), if_neg (by omega)]
theorem gO_45n (hi : inS s) (h6 : ¬ s.1 = 6) (hk : ¬ (k = 5 ∨ k = 6 ∨ k = 11)) (h10 : s.1 = 4 → ¬ k = 10) : gO al s k = none := by
  unfold gO
  have hm : mB s k = none := by
    unfold mB
    rw [if_neg (by omega)]
    exact fB_n (by omega)
  rcases hi with h | h | h
  · rw [if_neg (by omega), if_neg (by omega), if_neg (by omega), if_neg (by omega), if_pos h, if_neg (h10 h)]
    exact hm
  · rw [if_neg (by omega), if_neg (by omega), if_neg (by omega), if_neg (by omega), if_neg (by omega), if_pos h]
    exact hm
  · exact absurd h h6
theorem gO_6 (h : s.1 = 6) : gO al s k = tG al s k := by
  unfold gO
  rw [if_neg (by omega), if_neg (by omega), if_neg (by omega), if_neg (by omega), if_neg (by omega), if_neg (by omega)]
theorem gO_6p (h : s.1 = 6) (hk : k = 9 ∨ k = 10) : gO al s k = some (5, s.2) := by
  rw [gO_6 h]
  exact if_pos hk
theorem gO_6c (h : s.1 = 6) (hk : k = 12) (hd : 1 ≤ s.2.1) : gO al s k = some (6, s.2.1 - 1, s.2.2) := by
  rw [gO_6 h]
  unfold tG
  rw [if_neg (by omega), if_pos hk, if_pos hd]
theorem gO_6n (h : s.1 = 6) (hd : 1 ≤ s.2.1) (hk : ¬ (k = 5 ∨ k = 9 ∨ k = 10 ∨ k = 11 ∨ k = 12)) : gO al s k = none := by
  rw [gO_6 h]
  unfold tG
  rw [if_neg (by omega), if_neg (by omega)]
  by_cases h8 : k = 8
  · rw [if_pos h8, if_neg (by omega)]
  · rw [if_neg h8]
    by_cases h7 : k = 7
    · rw [if_pos h7, if_neg (by omega)]
    · rw [if_neg h7]
      exact fB_n (by omega)
theorem whl_45 (hi : inS s) (h6 : ¬ s.1 = 6) : ¬ whl al s := by
  unfold whl
  rcases hi with h | h | h <;> split <;> omega
theorem whl_6d (h : s.1 = 6) (hd : 1 ≤ s.2.1) : ¬ whl al s := by
  unfold whl
  split <;> omega
theorem aB_c (h : auB s) (hd : 1 ≤ s.2.1) : auB (6, s.2.1 - 1, s.2.2) := ⟨by dsimp only; omega, by have := h.2.1; dsimp only; omega, h.2.2⟩
end GOX
theorem gb_1 {al N t f : Int} {b : Int → Int} {s : aS} (hin : inS s) (h6 : ¬ s.1 = 6) (hnk : tp b N t.toNat < N → ¬ kK b N t = 5 ∧ ¬ kK b N t = 11 ∧ (kK b N t = 6 → ¬ f = 0) ∧ (s.1 = 4 → ¬ kK b N t = 10)) (hf : f = 0) : (N ≤ tp b N t.toNat ∧ ¬ whl al s) ∨ (tp b N t.toNat < N ∧ gO al s (kK b N t) = none) := by
  rcases Int.lt_or_le (tp b N t.toNat) N with c | c
  · obtain ⟨a1, a2, a3, a4⟩ := hnk c
    exact .inr ⟨c, gO_45n hin h6 (fun q => by rcases q with q | q | q; exact a1 q; exact a3 q hf; exact a2 q) a4⟩
  · exact .inl ⟨c, whl_45 hin h6⟩
theorem gb_2 {al N t f : Int} {b : Int → Int} {s : aS} (h6 : s.1 = 6) (hd : 1 ≤ s.2.1) (hnk : tp b N t.toNat < N → ¬ kK b N t = 5 ∧ ¬ kK b N t = 11 ∧ (kK b N t = 6 → ¬ f = 0) ∧ (s.1 = 4 → ¬ kK b N t = 10)) (h9 : ¬ (tp b N t.toNat < N ∧ kK b N t = 9)) (h10 : ¬ (tp b N t.toNat < N ∧ kK b N t = 10)) (h12 : ¬ (tp b N t.toNat < N ∧ kK b N t = 12)) : (N ≤ tp b N t.toNat ∧ ¬ whl al s) ∨ (tp b N t.toNat < N ∧ gO al s (kK b N t) = none) := by
  rcases Int.lt_or_le (tp b N t.toNat) N with c | c
  · obtain ⟨a1, a2, _, _⟩ := hnk c
    exact .inr ⟨c, gO_6n h6 hd (fun q => by rcases q with q | q | q | q | q; exact a1 q; exact h9 ⟨c, q⟩; exact h10 ⟨c, q⟩; exact a2 q; exact h12 ⟨c, q⟩)⟩
  · exact .inl ⟨c, whl_6d h6 hd⟩
theorem or9 {A : Prop} {k : Int} (h : A ∧ k = 9) : A ∧ (k = 9 ∨ k = 10) := ⟨h.1, .inl h.2⟩
theorem or10 {A : Prop} {k : Int} (h : A ∧ k = 10) : A ∧ (k = 9 ∨ k = 10) := ⟨h.1, .inr h.2⟩
