/-! laws taken (reference) -/
theorem lw_rc {n D p lm T tk t lf mid to lg : Int} {K V CO CI : Int → Int} (hO : sOk n D p) (h : lwM K V lm 0 CO CI tk t lf mid to lg) (ht : t ≤ T) (hlm : lm ≤ n) (hV : ∀ j, tk < j → j < t → K j = 5 → 0 ≤ V j ∧ V j < n) : (0 ≤ lg ∧ lg ≤ 400) ∧ (-1 ≤ mid ∧ mid ≤ 900) ∧ (mid = -1 → rcG n D p CO CI (evV n D p K V T (tk + 1)) lf to) ∧ (¬ mid = -1 → rcG n D p CO CI (evV n D p K V T (tk + 1)) lf mid ∧ rcG n D p CO CI (evV n D p K V T (enD K T (tk + 1) + 1)) mid to) ∧ (D < lg ↔ lwB K D T (tk + 1)) ∧ (fun x => if mid = -1 then evV n D p K V T (tk + 1) x else (evV n D p K V T (tk + 1) x - evV n D p K V T (enD K T (tk + 1) + 1) x) % p) = lvV n D p K V T (tk + 1) := by
  obtain ⟨h1, h2, e, h3, h4⟩ := h
  have hp0 : 0 < p := by have := hO.2.2.2.1; omega
  have hA := sS_b (k := D + 1) hO
  have key : ∀ {fr z C0 C : Int}, fr < z → (∀ j, fr ≤ j → j < z → tk < j ∧ j < t) → enD K T fr = z → 0 ≤ C0 ∧ C0 ≤ C ∧ C ≤ 900 → smF K V lm fr z C0 C CO CI → rcG n D p CO CI (evV n D p K V T fr) C0 C := by
    intro fr z C0 C c1 c2 c3 c4 c5
    exact ⟨c4, okK_up c5.1 hlm, c5.2.1, c5.2.2 T n D p c3 hO (fun j a b k => hV j (c2 j a b).1 (c2 j a b).2 k), fun x a b => evV_b hp0 ⟨a, by omega⟩⟩
  have he : ∀ {z : Int}, tk + 1 ≤ z → z < T → (∀ j, tk + 1 ≤ j → j < z → K j = 5 ∨ K j = 6 ∨ K j = 9 ∨ K j = 10 ∨ K j = 11 ∨ K j = 12) → (K z = 8 ∨ K z = 7) → enD K T (tk + 1) = z := fun a b c d => enD_eq a (by omega) (fun j x y q => by have := c j x y; omega) (fun _ => d)
  have h31 := h3.1
  rcases h4 with ⟨a, b, c, d, f⟩ | ⟨a, b, e2, c, d, f, i, j⟩
  · have e1 := he (z := e) (by omega) (by omega) h3.2 (.inr a)
    refine ⟨h1.2.2.2, by omega, fun _ => key h31 (fun j x y => by omega) e1 (by omega) (f rfl), fun q => absurd c q, ?_, ?_⟩
    · rw [d T e1]
      unfold lwB
      rw [e1]
      constructor
      · exact fun q => .inl q
      · rintro (q | q)
        · exact q
        · have := q.1; omega
    · funext x
      rw [lvV_0 (by rw [e1]; omega)]
      exact if_pos c
  · have c1 := c.1
    have e1 := he (z := e) (by omega) (by omega) h3.2 (.inl a)
    have e3 : enD K T (e + 1) = e2 := enD_eq (by omega) (by omega) (fun j x y q => by have := c.2 j x y; omega) (fun _ => .inr d)
    refine ⟨h1.2.2.2, by omega, fun q => by omega, fun _ => ⟨key h31 (fun j x y => by omega) e1 (by omega) (j rfl).1, ?_⟩, ?_, ?_⟩
    · rw [e1]
      exact key c1 (fun j x y => by omega) e3 (by omega) (j rfl).2
    · rw [i T e1 e3]
      unfold lwB
      rw [e1]
      constructor
      · intro q
        rcases Int.lt_or_le D (lgV K T (tk + 1)) with r | r
        · exact .inl r
        · exact .inr ⟨a, by omega⟩
      · rintro (q | q)
        · omega
        · have := q.2; omega
    · funext x
      rw [lvV_8 (by rw [e1]; exact a)]
      exact if_neg (by omega)
/-- laws taken so far -/
def hlJ (n D p : Int) (K V : Int → Int) (T si k : Int) (LE RW : Int → Int) : Prop := ∀ j, 0 ≤ j → j < T → K j = 4 → cLw K j < k → ¬ lwB K D T (j + 1) ∧ hmQ n D (lvV n D p K V T (j + 1)) (LE (8 * si + cLw K j)) ∧ (∀ w, 0 ≤ w → w < sW n D (LE (8 * si + cLw K j)) → RW (256 * (8 * si + cLw K j) + w) = lvV n D p K V T (j + 1) (sS n D (LE (8 * si + cLw K j)) + w)) ∧ ∀ x, 0 ≤ x → x < 256 → 0 ≤ RW (256 * (8 * si + cLw K j) + x) ∧ RW (256 * (8 * si + cLw K j) + x) < p
section HLJ
variable {n D p T si k : Int} {K V LE RW LE' RW' : Int → Int}
theorem hl_0 : hlJ n D p K V T si 0 LE RW := fun j a b _ d => by
  have := (cLw_b (K := K) (i := 0) (j := j) (Int.le_refl 0) a)
  omega
theorem cLw_i {i j : Int} (hi : 0 ≤ i) (hj : 0 ≤ j) (ki : K i = 4) (kj : K j = 4) (e : cLw K i = cLw K j) : i = j := by
  rcases Int.lt_trichotomy i j with q | q | q
  · have c1 := cLw_s (K := K) hi
    rw [if_pos ki] at c1
    have c2 := (cLw_b (K := K) (i := i + 1) (j := j) (by omega) (by omega)).2
    omega
  · exact q
  · have c1 := cLw_s (K := K) hj
    rw [if_pos kj] at c1
    have c2 := (cLw_b (K := K) (i := j + 1) (j := i) (by omega) (by omega)).2
    omega
theorem hl_s {j0 d : Int} (hk : 0 ≤ k) (hj : (0 ≤ j0 ∧ j0 < T) ∧ K j0 = 4 ∧ cLw K j0 = k) (h : hlJ n D p K V T si k LE RW) (hB : ¬ lwB K D T (j0 + 1)) (hd : hmQ n D (lvV n D p K V T (j0 + 1)) d) (e1 : LE' (8 * si + k) = d) (e2 : ∀ w, 0 ≤ w → w < sW n D d → RW' (256 * (8 * si + k) + w) = lvV n D p K V T (j0 + 1) (sS n D d + w)) (e3 : ∀ x, 0 ≤ x → x < 256 → 0 ≤ RW' (256 * (8 * si + k) + x) ∧ RW' (256 * (8 * si + k) + x) < p) (u1 : ∀ x, ¬ x = 8 * si + k → LE' x = LE x) (u2 : ∀ x, (x < 256 * (8 * si + k) ∨ 256 * (8 * si + k) + 256 ≤ x) → RW' x = RW x) (hO : sOk n D p) : hlJ n D p K V T si (k + 1) LE' RW' := fun j a b c f => by
  by_cases q : cLw K j = k
  · have e : j = j0 := cLw_i a hj.1.1 c hj.2.1 (by omega)
    subst e
    rw [q, e1]
    exact ⟨hB, hd, e2, e3⟩
  · obtain ⟨g1, g2, g3, g4⟩ := h j a b c (by omega)
    rw [u1 _ (by omega)]
    refine ⟨g1, g2, fun w w0 w1 => ?_, fun x x0 x1 => ?_⟩
    · have hw := sW_b (k := LE (8 * si + cLw K j)) hO
      rw [u2 _ (by omega)]
      exact g3 w w0 w1
    · rw [u2 _ (by omega)]
      exact g4 x x0 x1
/-- the laws of a text, by length -/
def lwT (n D p : Int) (K V : Int → Int) (T d : Int) (r : Int → Int) : Prop := ∃ j, (0 ≤ j ∧ j < T) ∧ K j = 4 ∧ hmQ n D (lvV n D p K V T (j + 1)) d ∧ ∀ w, 0 ≤ w → w < sW n D d → mE p (r w) (lvV n D p K V T (j + 1) (sS n D d + w))
theorem lwT_ok {LG LR : Int → Int} (hT : 0 ≤ T) (h : lkQ n D p K V T LG LR T) : lwOk LR LG (cLw K T) n D p (lwT n D p K V T) := by
  refine ⟨fun i a b => ?_, fun d r ⟨j, hj, hk, hd, hr⟩ => ?_⟩
  · obtain ⟨j, hj, k4, e⟩ := cLw_ex (K := K) (k := i) T.toNat a (by rw [show ((T.toNat : Nat) : Int) = T by omega]; exact b)
    have g := h j hj.1 (by omega) k4
    rw [e] at g
    exact ⟨j, ⟨hj.1, by omega⟩, k4, g.2.1, fun w w0 w1 => mE_of (g.2.2 w w0 w1)⟩
  · have g := h j hj.1 hj.2 hk
    have c1 := cLw_s (K := K) hj.1
    rw [if_pos hk] at c1
    have c2 := (cLw_b (K := K) (i := j + 1) (j := T) (by omega) (by omega)).2
    have c3 := (cLw_b (K := K) (i := 0) (j := j) (Int.le_refl 0) hj.1).2
    have e := hmQ_u g.2.1 hd
    refine ⟨cLw K j, by have := (cLw_b (K := K) (i := j) (j := j) hj.1 (Int.le_refl _)).1; omega, by omega, e, fun w w0 w1 => ?_⟩
    rw [g.2.2 w w0 (by rw [e]; exact w1), e]
    exact hr w w0 w1
theorem hl_k (h : hlJ n D p K V T si (cLw K T) LE RW) : lkQ n D p K V T (fun i => LE (8 * si + i)) (fun x => RW (2048 * si + x)) T := fun j a b c => by
  have c1 := cLw_s (K := K) a
  rw [if_pos c] at c1
  have c2 := (cLw_b (K := K) (i := j + 1) (j := T) (by omega) (by omega)).2
  have g := h j a b c (by omega)
  refine ⟨g.1, g.2.1, fun w w0 w1 => ?_⟩
  show RW (2048 * si + (cLw K j * 256 + w)) = _
  rw [show 2048 * si + (cLw K j * 256 + w) = 256 * (8 * si + cLw K j) + w by omega]
  exact g.2.2.1 w w0 w1
theorem hl_p (hT : 0 ≤ T) (h : hlJ n D p K V T si (cLw K T) LE RW) : ∀ i, 0 ≤ i → i < cLw K T → ∀ j, 0 ≤ j → j < 256 → 0 ≤ RW (256 * (8 * si + i) + j) ∧ RW (256 * (8 * si + i) + j) < p := fun i a b x x0 x1 => by
  obtain ⟨j, hj, k4, e⟩ := cLw_ex (K := K) (k := i) T.toNat a (by rw [show ((T.toNat : Nat) : Int) = T by omega]; exact b)
  have g := h j hj.1 (by omega) k4 (by omega)
  rw [e] at g
  exact g.2.2.2 x x0 x1
theorem hl_g (h : hlJ n D p K V T si k LE RW) : ∀ j, 0 ≤ j → j < T → K j = 4 → cLw K j < k → lkG n D p K V T j := fun j a b c d => ⟨(h j a b c d).1, _, (h j a b c d).2.1⟩
end HLJ
theorem mI_mk {σ : en_m} {n D p : Int} (hO : sOk n D p) (h1 : σ r_Md_live 0 = 0 ∨ σ r_Md_live 0 = 1) (h2 : σ r_Md_letters (σ r_Md_live 0) = n) (h3 : σ r_Md_degree (σ r_Md_live 0) = D) (h4 : σ r_Md_prime (σ r_Md_live 0) = p) (h5 : ∀ k : Int, 0 ≤ k → k ≤ 8 → σ r_Md_powers (9 * σ r_Md_live 0 + k) = sW n D k) (h6 : ∀ k : Int, 0 ≤ k → k ≤ 8 → σ r_Md_starts (9 * σ r_Md_live 0 + k) = sS n D k) : mI σ n D p := ⟨hO, h1, h2, h3, h4, h5, h6⟩
theorem mI_e {σ : en_m} {n D p : Int} (h : mI σ n D p) : sOk n D p ∧ (σ r_Md_live 0 = 0 ∨ σ r_Md_live 0 = 1) ∧ σ r_Md_letters (σ r_Md_live 0) = n ∧ σ r_Md_degree (σ r_Md_live 0) = D ∧ σ r_Md_prime (σ r_Md_live 0) = p ∧ (∀ k : Int, 0 ≤ k → k ≤ 8 → σ r_Md_powers (9 * σ r_Md_live 0 + k) = sW n D k) ∧ ∀ k : Int, 0 ≤ k → k ≤ 8 → σ r_Md_starts (9 * σ r_Md_live 0 + k) = sS n D k := h
/-- letters told count below the letters -/
theorem nm32_b {b : Int → Int} {N t : Int} (h : tp b N t.toNat < N) (hk : kK b N t = 5) : i64 (nm32 b N t) := by
  have g := tok_5 h hk
  have q := te_b (b := b) h
  have w := wf_b (x := 32) (b := b) (i := tp b N t.toNat) (by decide) (te b N (tp b N t.toNat) - tp b N t.toNat).toNat (fun j a c => g.2 _ (by omega) (by omega))
  have l : (32 : Int) ^ (te b N (tp b N t.toNat) - tp b N t.toNat).toNat ≤ 32 ^ 8 := pow_mono (by decide) (by omega)
  have l2 : (32 : Int) ^ 8 = 1099511627776 := by decide
  unfold i64 nm32
  omega
section UV
variable {b : Int → Int} {N T j : Int}
theorem u_B (hl : ∀ i, 0 ≤ i → i < T → tp b N i.toNat < N) (hT : 0 ≤ T) : twB (kK b N) (dfI b N) (uT b N T) := by
  have e := twI_B (m := T) (PL := pT b N) (fun i a c k => nm32_b (hl i a c) k) (twB_0 (K := kK b N) (NU0 := dfI b N) (NM := fun _ => 0) (pr := 97) (dg := 0) (dp := 0)) T.toNat (by omega)
  exact e
theorem u_V (hl : ∀ i, 0 ≤ i → i < T → tp b N i.toNat < N) (hZ : tZ b N T) (hj : 0 ≤ j ∧ j < T) (hk : kK b N j = 5) (hk2 : ¬ pvK (kK b N) j = 2) : 0 ≤ vP b N j ∧ vP b N j < (uT b N T).1 := by
  have e := twV (K := kK b N) (PL := pT b N) (PK := nm32 b N) (s0 := s0P b N) (NU0 := dfI b N) (m := T) (by show (0 : Int) ≤ 0 ∧ (0 : Int) ≤ 4; decide) (fun i a c k => nm32_b (hl i a c) k) twB_0 hj hZ hk hk2
  have e2 := uT_v (b := b) (N := N) hj
  rw [← e2]
  exact e
theorem u_ok (hT : 0 ≤ T) (hZ : tZ b N T) : sPr (uT b N T).2.2.1 ∧ 0 ≤ (uT b N T).2.2.2.1 ∧ (uT b N T).2.2.2.1 ≤ 7 := by
  have z : twZ (kK b N) (pT b N) (nm32 b N) (s0P b N) (T.toNat : Nat) := by rw [show ((T.toNat : Nat) : Int) = T by omega]; exact hZ
  exact twI_ok (K := kK b N) (PL := pT b N) (PK := nm32 b N) (s0 := s0P b N) sPr_97 (by show (0 : Int) ≤ 0 ∧ (0 : Int) ≤ 7; decide) T.toNat z
end UV
/-! the reading begun, told on, ended -/
theorem mO_0 {b : Int → Int} {N t F FP : Int} (ht : t = 0) (hF : F = 0) : mO 0 b N (0, 0, 0, 0, 0) t F FP := by
  subst ht
  exact ⟨by decide, .inl ⟨hF, rfl⟩⟩
theorem rdJ_0 {b : Int → Int} {N si t o C W WP DT : Int} {CO CI LET NO PRI DEG LAW LT LF LM LO LG : Int → Int} (h1 : t = 0) (h2 : o = 0) (h3 : C = 0) (h4 : W = 0) (h5 : LET si = 0) (h6 : LAW si = 0) (h7 : PRI si = 97) (h8 : DEG si = 0) : rdJ b N si (0, 0, 0, 0, 0) t o C W WP DT CO CI LET NO PRI DEG LAW LT LF LM LO LG := by
  unfold rdJ
  rw [h1, h2, h3, h4, h5, h6, h7, h8]
  exact ⟨⟨rfl, rfl⟩, auB_0 (al := 0), rfl, by omega, by omega, rfl, fun j a b => by omega, by omega, fun q => absurd rfl q, ⟨by omega, rfl⟩, r_0⟩
theorem ms_r {F t F' t' : Int} {M : Nat} (hF : F = 0) (hN : (if F = 0 then 401 - t else 0).toNat < M + 1) (ht : 0 ≤ t ∧ t ≤ 400) (h : F' = 0 → t < t') : (if F' = 0 then 401 - t' else 0).toNat < M := by
  rw [if_pos hF] at hN
  by_cases c : F' = 0
  · rw [if_pos c]; have := h c; omega
  · rw [if_neg c]; omega
theorem te_pl {al N m j t : Int} {b : Int → Int} {K P V NM : Int → Int} {s : aS} (hE : tkE b N m K P V NM) (ht : 0 ≤ t ∧ t ≤ 400) (h : stT al b N t.toNat = some s) (hj : 0 ≤ j ∧ j < t) : P j = tp b N j.toNat := by
  obtain ⟨u, v, h1, _, h3, _⟩ := stT_at h (j := j) ⟨hj.1, by omega⟩
  have e := (mo_k hE (t := j) ⟨hj.1, by omega⟩ h1).2.1
  rw [e]
  exact if_neg (by omega)
theorem tk_end {b : Int → Int} {N t : Int} {s : aS} {T : Nat} (hT : t = T) (h : stT 0 b N t.toNat = some s) (hl : N ≤ tp b N t.toNat) (hs : s.1 = 0) : tkO 0 b N T 0 (-1) := by
  have e : t.toNat = T := by omega
  rw [e] at h hl
  exact ⟨s, h, .inl ⟨hl, by unfold whl; rw [if_pos rfl]; exact hs, rfl, rfl⟩⟩
theorem dg_z {m d : Int} (h : m = 0) : dgQ d m = gDg d := if_pos h
theorem dg_n {m d : Int} (h : ¬ m = 0) : dgQ d m = m := if_neg h
theorem kM_0 {b : Int → Int} {N t : Int} : kM b N t = 0 ↔ N ≤ tp b N t.toNat := by
  unfold kM
  by_cases c : N ≤ tp b N t.toNat
  · rw [if_pos c]; exact ⟨fun _ => c, fun _ => rfl⟩
  · rw [if_neg c]; have := mkM_0 (kK b N t); exact ⟨fun q => by omega, fun q => absurd q c⟩
theorem gd_i {m k d : Int} (h : (k = 1 ∧ d = 0) ∨ ((1 ≤ d ∧ d < k) ∧ m ^ d.toNat ≤ 256 ∧ ∀ e, d < e → e < k → 256 < m ^ e.toNat)) (hk : k = 8) (hm : 0 ≤ m ∧ m ≤ 4) : d = gDg m := by
  rcases h with h | ⟨h1, h2, h3⟩
  · omega
  · exact gDg_eq hm (by omega) h2 (fun e a c => h3 e a (by omega))
theorem gd_t {m k d : Int} (h : (k = 1 ∧ d = 0) ∨ ((1 ≤ d ∧ d < k) ∧ m ^ d.toNat ≤ 256 ∧ ∀ e, d < e → e < k → 256 < m ^ e.toNat)) (hm : 0 ≤ m ∧ m ≤ 4) (g : 256 < m ^ k.toNat) : (k + 1 = 1 ∧ d = 0) ∨ ((1 ≤ d ∧ d < k + 1) ∧ m ^ d.toNat ≤ 256 ∧ ∀ e, d < e → e < k + 1 → 256 < m ^ e.toNat) := by
  rcases h with h | ⟨h1, h2, h3⟩
  · rw [h.1, show (1 : Int).toNat = 1 from rfl, Int.pow_succ, Int.pow_zero] at g
    omega
  · refine .inr ⟨by omega, h2, fun e a c => ?_⟩
    rcases Int.lt_or_eq_of_le (show e ≤ k by omega) with q | q
    · exact h3 e a q
    · rw [q]; exact g
theorem gd_f {m k d : Int} (h : (k = 1 ∧ d = 0) ∨ ((1 ≤ d ∧ d < k) ∧ m ^ d.toNat ≤ 256 ∧ ∀ e, d < e → e < k → 256 < m ^ e.toNat)) (g : m ^ k.toNat ≤ 256) : (k + 1 = 1 ∧ k = 0) ∨ ((1 ≤ k ∧ k < k + 1) ∧ m ^ k.toNat ≤ 256 ∧ ∀ e, k < e → e < k + 1 → 256 < m ^ e.toNat) := .inr ⟨by rcases h with h | h <;> omega, g, fun e a c => by omega⟩
/-! an element read (reference) -/
theorem mO_1 {b : Int → Int} {N t F FP : Int} (ht : t = 0) (hF : F = 0) : mO 1 b N (4, 0, 0, 0, 0) t F FP := by
  subst ht
  exact ⟨by decide, .inl ⟨hF, rfl⟩⟩
theorem gO_6e {al N t : Int} {b : Int → Int} {rest : Int × Int × Int} (hal : al = 1) (hn : tp b N t.toNat < N → ¬ (kK b N t = 5 ∨ kK b N t = 9 ∨ kK b N t = 10 ∨ kK b N t = 11)) (hg : ¬ N ≤ tp b N t.toNat) : (N ≤ tp b N t.toNat ∧ ¬ whl al (6, 0, rest)) ∨ (tp b N t.toNat < N ∧ gO al (6, 0, rest) (kK b N t) = none) := by
  have hl : tp b N t.toNat < N := by omega
  have k := hn hl
  refine .inr ⟨hl, ?_⟩
  rw [gO_6 rfl]
  unfold tG
  rw [if_neg (by omega)]
  by_cases c12 : kK b N t = 12
  · rw [if_pos c12, if_neg (by dsimp only; decide)]
  rw [if_neg c12]
  by_cases c8 : kK b N t = 8
  · rw [if_pos c8, if_neg (fun q => by have := q.2.1; omega)]
  rw [if_neg c8]
  by_cases c7 : kK b N t = 7
  · rw [if_pos c7, if_neg (fun q => by have := q.2; omega)]
  rw [if_neg c7]
  exact fB_n (by omega)
theorem tk_end1 {b : Int → Int} {N t : Int} {rest : Int × Int × Int} (ht : 0 ≤ t ∧ t ≤ 400) (h : stT 1 b N t.toNat = some (6, 0, rest)) (hl : N ≤ tp b N t.toNat) (T : Nat) (hT : t = T) : tkO 1 b N T 0 (-1) := by
  have e : t.toNat = T := by omega
  rw [e] at h hl
  exact ⟨_, h, .inl ⟨hl, by unfold whl; rw [if_neg (by decide)]; exact ⟨rfl, rfl⟩, rfl, rfl⟩⟩
theorem wU_no {b NM : Int → Int} {N lm fr t P0 W P : Int} (h : wU b N NM lm fr t 0 P0 W P) (w : W = 0) : ∀ j, fr ≤ j → j < t → kK b N j = 5 → ¬ uM b N NM lm j := by
  rcases h with h | h | h
  · exact absurd rfl h.1
  · exact h.2.2
  · omega
theorem el_v {b NM : Int → Int} {N lm t : Int} (hm : 0 ≤ lm) (h : ∀ j, 0 ≤ j → j < t → kK b N j = 5 → ¬ uM b N NM lm j) : ∀ j, 0 ≤ j → j < t → kK b N j = 5 → 0 ≤ vM b N NM lm j ∧ vM b N NM lm j < lm := fun j a c k => by
  have e := h j a c k
  have e2 := fd_b (NM := NM) (pk := nm27 b N j) hm
  unfold uM at e
  rw [show vM b N NM lm j = fd NM (nm27 b N j) lm from if_neg (by omega)]
  omega
theorem el_rc {al b N lm C t n D p : Int} {V BE CO CI : Int → Int} {bb : Int → Int} {rest : Int × Int × Int} (hO : sOk n D p) (h : smE al bb N V lm 0 0 rest t BE C CO CI 0) (hn : lm ≤ n) (hv : ∀ j, 0 ≤ j → j < t → kK bb N j = 5 → 0 ≤ V j ∧ V j < n) : rcG n D p CO CI (evV n D p (kK bb N) V t 0) 0 C ∧ BE 0 = lgV (kK bb N) t 0 := by
  have hk := h.2.2.1
  have ht := h.1.2
  have e : enD (kK bb N) t 0 = t := enD_eq ht.1 (Int.le_refl _) (fun j a c q => by have := hk j a c; omega) (fun q => by omega)
  have hA := sS_b (k := D + 1) hO
  have hp0 : 0 < p := by have := hO.2.2.2.1; omega
  have h7 := h.2.2.2.2.2.2.1
  have h8 := h.2.2.2.2.2.2.2.1 rfl
  exact ⟨⟨by omega, okK_up h8.1 hn, h8.2, h.2.2.2.2.2.2.2.2 rfl t n D p e hO hv, fun x a c => evV_b hp0 ⟨a, by omega⟩⟩, h.2.2.2.2.1 t e⟩
