/-! words without a fault -/
section UN
variable {K PL PK NU0 : Int → Int} {s0 s' : wS} {m r pl : Int}
theorem twO_0 (h : twO K PL PK s0 m r pl s') (hr : r = 0) : pl = -1 ∧ twZ K PL PK s0 m ∧ s' = twI K PL PK s0 m.toNat := by
  rcases h with h | ⟨i, h1, h2, h3, _⟩
  · exact h.2
  · exact absurd hr h3
theorem twI_B (hp : ∀ j, 0 ≤ j → j < m → K j = 5 → i64 (PK j)) (h : twB K NU0 s0) : ∀ k : Nat, (k : Int) ≤ m → twB K NU0 (twI K PL PK s0 k)
  | 0, _ => h
  | k + 1, hk => tw_B (hp _ (by omega) (by omega)) (twI_B hp h k (by omega))
theorem twO_B (hm : 0 ≤ m) (hp : ∀ j, 0 ≤ j → j < m → K j = 5 → i64 (PK j)) (h0 : twB K NU0 s0) (h : twO K PL PK s0 m r pl s') : twB K NU0 s' := by
  rcases h with h | ⟨i, hi, _, _, _, _, h⟩
  · rw [h.2.2.2]; exact twI_B hp h0 _ (by omega)
  · rw [h]; exact twI_B hp h0 _ (by omega)
theorem twI_ok (hp : sPr s0.2.2.1) (hd : 0 ≤ s0.2.2.2.1 ∧ s0.2.2.2.1 ≤ 7) : ∀ k : Nat, twZ K PL PK s0 k → sPr (twI K PL PK s0 k).2.2.1 ∧ 0 ≤ (twI K PL PK s0 k).2.2.2.1 ∧ (twI K PL PK s0 k).2.2.2.1 ≤ 7
  | 0, _ => ⟨hp, hd⟩
  | k + 1, h => by
    have ih := twI_ok hp hd k (fun j a b => h j a (by omega))
    have hk := h k (by omega) (by omega)
    rw [show ((k : Nat) : Int).toNat = k by omega] at hk
    show sPr (tw K PL PK k (twI K PL PK s0 k)).2.2.2.1 ∧ 0 ≤ (tw K PL PK k (twI K PL PK s0 k)).2.2.2.2.1 ∧ (tw K PL PK k (twI K PL PK s0 k)).2.2.2.2.1 ≤ 7
    generalize twI K PL PK s0 k = s at ih hk
    obtain ⟨m, NM, pr, dg, dp, NU⟩ := s
    by_cases h5 : K k = 5
    · by_cases c : pvK K k = 2
      · by_cases g : fd NM (PK k) m < m ∨ 4 ≤ m
        · rw [tw_t h5 c g]; exact ih
        · rw [tw_l h5 c g]; exact ih
      · rw [tw_n h5 c]; exact ih
    · by_cases c : pvK K k = 1
      · rw [tw_1 h5 c] at hk ⊢
        refine ⟨?_, ih.2⟩
        rcases Classical.em (sPr (NU k)) with q | q
        · exact q
        · have : prF (NU k) = 0 := hk
          rw [prF_5 q] at this; omega
      · by_cases c3 : pvK K k = 3
        · rw [tw_3 h5 c3] at hk ⊢
          refine ⟨ih.1, ?_⟩
          have h2 : dgF (NU k) = 0 := hk
          unfold dgF at h2
          show 0 ≤ NU k ∧ NU k ≤ 7
          by_cases q : 1 ≤ NU k ∧ NU k ≤ 7
          · omega
          · rw [if_neg q] at h2; omega
        · rw [tw_0 h5 c c3]; exact ih
/-- letters grow, what a name tells stays -/
theorem tw_mono {i x : Int} {s : wS} (hx : ¬ x = i) : s.1 ≤ (tw K PL PK i s).2.1 ∧ (tw K PL PK i s).2.2.2.2.2.2 x = s.2.2.2.2.2 x := by
  obtain ⟨m, NM, pr, dg, dp, NU⟩ := s
  by_cases h5 : K i = 5
  · by_cases c : pvK K i = 2
    · by_cases g : fd NM (PK i) m < m ∨ 4 ≤ m
      · rw [tw_t h5 c g]; exact ⟨Int.le_refl _, nuF_o hx⟩
      · rw [tw_l h5 c g]; exact ⟨by show m ≤ m + 1; omega, rfl⟩
    · rw [tw_n h5 c]; exact ⟨Int.le_refl _, nuF_o hx⟩
  · by_cases c : pvK K i = 1
    · rw [tw_1 h5 c]; exact ⟨Int.le_refl _, rfl⟩
    · by_cases c3 : pvK K i = 3
      · rw [tw_3 h5 c3]; exact ⟨Int.le_refl _, rfl⟩
      · rw [tw_0 h5 c c3]; exact ⟨Int.le_refl _, rfl⟩
theorem twV (h0 : 0 ≤ s0.1 ∧ s0.1 ≤ 4) (hp : ∀ j, 0 ≤ j → j < m → K j = 5 → i64 (PK j)) (hB : twB K NU0 s0) {j : Int} (hj : 0 ≤ j ∧ j < m) (hz : twZ K PL PK s0 m) (hk : K j = 5) (hk2 : ¬ pvK K j = 2) : 0 ≤ (twI K PL PK s0 m.toNat).2.2.2.2.2 j ∧ (twI K PL PK s0 m.toNat).2.2.2.2.2 j < (twI K PL PK s0 m.toNat).1 := by
  have key : ∀ t : Nat, j + 1 + t ≤ m → 0 ≤ (twI K PL PK s0 (j + 1 + t).toNat).2.2.2.2.2 j ∧ (twI K PL PK s0 (j + 1 + t).toNat).2.2.2.2.2 j < (twI K PL PK s0 (j + 1 + t).toNat).1 := by
    intro t
    induction t with
    | zero =>
      intro _
      rw [show j + 1 + ((0 : Nat) : Int) = j + 1 by omega, twI_s hj.1 rfl]
      have hzj := hz j hj.1 hj.2
      have hb := twI_B (PL := PL) hp hB j.toNat (by omega)
      generalize twI K PL PK s0 j.toNat = s at hzj hb
      obtain ⟨m9, NM, pr, dg, dp, NU⟩ := s
      have hm9 : 0 ≤ m9 ∧ m9 ≤ 4 := hb.1
      rw [tw_n hk hk2] at hzj ⊢
      have hf := fd_b (NM := NM) (pk := PK j) hm9.1
      by_cases q : fd NM (PK j) m9 < m9
      · show 0 ≤ nuF NU j (fd NM (PK j) m9) m9 j ∧ nuF NU j (fd NM (PK j) m9) m9 j < m9
        unfold nuF
        rw [if_pos q, up_eq]
        exact ⟨hf.1, q⟩
      · have h2 : (if fd NM (PK j) m9 < m9 then (0 : Int) else 4) = 0 := hzj
        rw [if_neg q] at h2; omega
    | succ t ih =>
      intro ht
      have ih2 := ih (by omega)
      have hm := tw_mono (K := K) (PL := PL) (PK := PK) (i := j + 1 + t) (x := j) (s := twI K PL PK s0 (j + 1 + t).toNat) (by omega)
      rw [show j + 1 + ((t + 1 : Nat) : Int) = (j + 1 + t) + 1 by omega, twI_s (by omega) rfl, hm.2]
      omega
  have h := key (m - (j + 1)).toNat (by omega)
  rw [show j + 1 + (((m - (j + 1)).toNat : Nat) : Int) = m by omega] at h
  exact h
end UN
/-- the tokens of a law follow the grammar -/
def lwQ (K : Int → Int) (m fr : Int) : Prop := enD K m fr < m ∧ dOk K m fr ∧ sKd K m fr ∧ (K (enD K m fr) = 8 → dOk K m (enD K m fr + 1) ∧ sKd K m (enD K m fr + 1))
theorem lwP_of {K V : Int → Int} {n m i : Int} (hi : 0 ≤ i ∧ i < m) (h : lwQ K m (i + 1)) (h4 : K i = 4) (h6 : ∀ j, 0 ≤ j → j < m → K j = 6 → 0 ≤ V j ∧ V j ≤ 9999) (h5 : ∀ j, 0 ≤ j → j < m → K j = 5 → ¬ pvK K j = 2 → 0 ≤ V j ∧ V j < n) : lwP K V n m (i + 1) := by
  obtain ⟨a, b, c, d⟩ := h
  have hb := enD_b (K := K) (m := m) (fr := i + 1) (by omega)
  have nt : ∀ fr, i < fr → fr ≤ m → (K (fr - 1) = 4 ∨ K (fr - 1) = 8) → sKd K m fr → ∀ j, fr ≤ j → j < enD K m fr → (K j = 6 → 0 ≤ V j ∧ V j ≤ 9999) ∧ (K j = 5 → 0 ≤ V j ∧ V j < n) := by
    intro fr f1 f2 f3 f4 j j0 j1
    have hb2 := enD_b (K := K) f2
    refine ⟨fun q => h6 j (by omega) (by omega) q, fun q => h5 j (by omega) (by omega) q ?_⟩
    unfold pvK
    rw [if_pos (by omega)]
    by_cases e : j = fr
    · rw [e]; omega
    · have := f4 (j - 1) (by omega) (by omega)
      omega
  refine ⟨a, b, c, nt (i + 1) (by omega) (by omega) (by rw [show i + 1 - 1 = i by omega]; exact .inl h4) c, fun q => ?_⟩
  have k := d q
  exact ⟨k.1, k.2, nt _ (by omega) (by omega) (by rw [show enD K m (i + 1) + 1 - 1 = enD K m (i + 1) by omega]; exact .inr q) k.2⟩
theorem cS1_mk {σ : en_m} {n D p : Int} (h : sOk n D p) (a : σ r_Shape1_letters 0 = n) (b : σ r_Shape1_degree 0 = D) (c : σ r_Shape1_prime 0 = p) (d : ∀ k : Int, 0 ≤ k → k ≤ 7 → σ r_Shape1_many k = sW n D k) (e : ∀ k : Int, 0 ≤ k → k ≤ 8 → σ r_Shape1_start k = sS n D k) (f : ∀ x : Int, 0 ≤ x → x < sS n D (D + 1) → σ r_Shape1_lengths x = sL n D x) : cS1 σ n D p := ⟨h, a, b, c, d, e, f⟩
theorem cS0_mk {σ : en_m} {n D p : Int} (h : sOk n D p) (a : σ r_Shape0_letters 0 = n) (b : σ r_Shape0_degree 0 = D) (c : σ r_Shape0_prime 0 = p) (d : ∀ k : Int, 0 ≤ k → k ≤ 7 → σ r_Shape0_many k = sW n D k) (e : ∀ k : Int, 0 ≤ k → k ≤ 8 → σ r_Shape0_start k = sS n D k) (f : ∀ x : Int, 0 ≤ x → x < sS n D (D + 1) → σ r_Shape0_lengths x = sL n D x) : cS0 σ n D p := ⟨h, a, b, c, d, e, f⟩
theorem sPr_97 : sPr 97 := by
  refine ⟨by decide, by decide, fun k a b => ?_⟩
  have : ∀ t : Nat, t < 97 → 2 ≤ t → ¬ (97 : Int) % (t : Int) = 0 := by decide
  have h := this k.toNat (by omega) (by omega)
  rw [show ((k.toNat : Nat) : Int) = k by omega] at h
  exact h
theorem twO_b {K PL PK : Int → Int} {s0 s' : wS} {m r pl : Int} (h : twO K PL PK s0 m r pl s') : 0 ≤ r ∧ r ≤ 5 := by
  rcases h with h | ⟨i, _, _, _, h, _⟩
  · omega
  · rw [h]; exact tw_b
