/-! a text without a fault: what the tokens keep to -/
section GR2
variable {al N pl : Int} {b : Int → Int} {T : Nat} {K : Int → Int}
theorem tk_fin (h : tkO al b N T 0 pl) : pl = -1 ∧ N ≤ tp b N T ∧ ∃ s, stT al b N T = some s ∧ whl al s := by
  obtain ⟨s, h1, h2⟩ := h
  rcases h2 with q | q | q
  · exact ⟨q.2.2.2, q.1, s, h1, q.2.1⟩
  · exact absurd q.2.2.1 (by decide)
  · exact absurd q.2.2.1.symm q.2.1
theorem g_67 (h : ∃ s, stT al b N T = some s) (hK : ∀ j : Int, 0 ≤ j → j < T → K j = kK b N j) {j : Int} (hj : 0 < j ∧ j < T) (hk : K (j - 1) = 1 ∨ K (j - 1) = 3) : K j = 6 := by
  obtain ⟨s, h⟩ := h
  obtain ⟨u, v, e1, e2, e3, e4, e5⟩ := stT_at h (j := j - 1) ⟨by omega, by omega⟩
  obtain ⟨u2, w, f1, f2, f3, f4, f5⟩ := stT_at h (j := j) ⟨by omega, by omega⟩
  rw [show j - 1 + 1 = j by omega] at e2
  rw [e2] at f1
  cases f1
  rw [← hK (j - 1) (by omega) (by omega)] at e4
  rw [← hK j (by omega) (by omega)] at f4
  have g := (gO_4 (stT_B e1) e4 (by omega)).2
  unfold tB at g
  rw [if_pos hk] at g
  cases g
  unfold gO at f4
  dsimp only at f4
  rw [if_neg (by decide), if_pos rfl] at f4
  by_cases c : K j = 6
  · exact c
  · rw [if_neg c] at f4; cases f4
theorem g_5 (h : ∃ s, stT al b N T = some s) (hK : ∀ j : Int, 0 ≤ j → j < T → K j = kK b N j) {j : Int} (hj : 0 < j ∧ j < T) (hk : K (j - 1) = 2) : K j = 5 := by
  obtain ⟨s, h⟩ := h
  obtain ⟨u, v, e1, e2, e3, e4, e5⟩ := stT_at h (j := j - 1) ⟨by omega, by omega⟩
  obtain ⟨u2, w, f1, f2, f3, f4, f5⟩ := stT_at h (j := j) ⟨by omega, by omega⟩
  rw [show j - 1 + 1 = j by omega] at e2
  rw [e2] at f1
  cases f1
  rw [← hK (j - 1) (by omega) (by omega)] at e4
  rw [← hK j (by omega) (by omega)] at f4
  have g := (gO_4 (stT_B e1) e4 (by omega)).2
  unfold tB at g
  rw [if_neg (by omega), if_pos hk] at g
  cases g
  unfold gO at f4
  dsimp only at f4
  rw [if_neg (by decide), if_neg (by decide), if_pos rfl] at f4
  by_cases c : K j = 5
  · exact c
  · rw [if_neg c] at f4; cases f4
theorem g_8 (h : ∃ s, stT al b N T = some s) (hK : ∀ j : Int, 0 ≤ j → j < T → K j = kK b N j) : cLw K T ≤ 8 := by
  obtain ⟨s, h⟩ := h
  have g := (stT_fr h hK T s (Nat.le_refl _) h).2
  have k := stT_B h
  rw [← g]
  exact k.2.2.2.1.2
theorem g_law (h : ∃ s, stT 0 b N T = some s ∧ whl 0 s) (hK : ∀ j : Int, 0 ≤ j → j < T → K j = kK b N j) {i : Int} (hi : 0 ≤ i ∧ i < T) (hk : K i = 4) : lwQ K T (i + 1) := by
  obtain ⟨s, h, hw⟩ := h
  have hw0 : s.1 = 0 := hw
  obtain ⟨u, v, e1, e2, e3, e4, e5⟩ := stT_at h (j := i) hi
  rw [← hK i hi.1 hi.2] at e4
  have g := gO_4 (stT_B e1) e4 (by omega)
  have fq := stT_fr h hK i.toNat u (by omega) e1
  have d0 := fq.1 (by omega)
  have g2 := g.2
  unfold tB at g2
  rw [if_neg (by omega), if_neg (by omega), if_pos hk] at g2
  have gv : v.1 = 4 ∧ v.2.1 = 0 := by
    cases g2
    exact ⟨rfl, d0⟩
  have go : ∀ fr : Int, 0 ≤ fr → fr ≤ T → ∀ v : aS, stT 0 b N fr.toNat = some v → v.1 = 4 → v.2.1 = 0 → enD K T fr < T ∧ dOk K T fr ∧ sKd K T fr ∧ ∃ w, stT 0 b N (enD K T fr).toNat = some w ∧ inS w := by
    intro fr f0 f1 v hv v1 v2
    have hb := enD_b (K := K) (m := T) (fr := fr) f1
    obtain ⟨a, c, w, w1, w2, w3⟩ := sum_ok h hK ⟨f0, f1⟩ hv (.inl v1) v2
    refine ⟨?_, a, c, w, w1, w2⟩
    rcases Int.lt_or_le (enD K T fr) T with q | q
    · exact q
    · exfalso
      rw [show (enD K T fr).toNat = T by omega, h] at w1
      cases w1
      rcases w2 with w2 | w2 | w2 <;> omega
  obtain ⟨a, c, d, w, w1, w2⟩ := go (i + 1) (by omega) (by omega) v e2 gv.1 gv.2
  refine ⟨a, c, d, fun k8 => ?_⟩
  have hb := enD_b (K := K) (m := T) (fr := i + 1) (by omega)
  obtain ⟨u', v', e1', e2', e3', e4', e5'⟩ := stT_at h (j := enD K T (i + 1)) ⟨by omega, a⟩
  rw [w1] at e1'
  cases e1'
  rw [← hK _ (by omega) a] at e4'
  have o := gO_out w2 e4' (.inl k8)
  have r := go (enD K T (i + 1) + 1) (by omega) (by omega) v' e2' (o.2.2.2.2.1 k8) o.2.2.2.1
  exact ⟨r.2.1, r.2.2.1⟩
theorem g_sum (ha : al = 1) (h : ∃ s, stT al b N T = some s) (hK : ∀ j : Int, 0 ≤ j → j < T → K j = kK b N j) : enD K T 0 = T ∧ dOk K T 0 ∧ sKd K T 0 := by
  obtain ⟨s, h⟩ := h
  have h0 : stT al b N (0 : Int).toNat = some (4, 0, 0, 0, 0) := by
    show some (if al = 0 then (0 : Int) else 4, (0 : Int), (0 : Int), (0 : Int), (0 : Int)) = _
    rw [if_neg (by omega)]
  obtain ⟨a, c, w, w1, w2, w3⟩ := sum_ok h hK ⟨by omega, by omega⟩ h0 (.inl rfl) rfl
  refine ⟨?_, a, c⟩
  have hb := enD_b (K := K) (m := T) (fr := 0) (by omega)
  rcases Int.lt_or_le (enD K T 0) T with q | q
  · exfalso
    obtain ⟨u', v', e1', e2', e3', e4', e5'⟩ := stT_at h (j := enD K T 0) ⟨by omega, q⟩
    rw [w1] at e1'
    cases e1'
    rw [← hK _ (by omega) q] at e4'
    have k8 : K (enD K T 0) = 8 ∨ K (enD K T 0) = 7 := Decidable.byContradiction fun g => (rn_b (q := fun j => ¬ (K j = 8 ∨ K j = 7)) (N := T) (i := 0) (by omega)).2.2 q g
    have o := gO_out w2 e4' k8
    omega
  · omega
end GR2
theorem tok_6 {b : Int → Int} {N i : Int} (hi : i < N) (h : kd b N i = 6) : te b N i - i ≤ 4 ∧ ∀ j, i ≤ j → j < te b N i → 48 ≤ b j ∧ b j ≤ 57 := by
  by_cases c : 97 ≤ b i ∧ b i ≤ 122
  · rw [kd_L c] at h
    by_cases g : 8 < te b N i - i
    · rw [if_pos g] at h; omega
    · rw [if_neg g] at h; have := wkd_b (wf 32 b i (te b N i - i).toNat); omega
  · by_cases k : 48 ≤ b i ∧ b i ≤ 57
    · rw [kd_D c k] at h
      by_cases g : 4 < te b N i - i
      · rw [if_pos g] at h; omega
      · refine ⟨by omega, ?_⟩
        rw [te_D c k]
        exact (rn_b (q := fun j => isDi (b j)) (N := N) (i := i) (by omega)).2.1
    · rw [kd_S c k] at h; exact absurd h (sgk_n _).2
theorem tok_5 {b : Int → Int} {N i : Int} (hi : i < N) (h : kd b N i = 5) : te b N i - i ≤ 8 ∧ ∀ j, i ≤ j → j < te b N i → 97 ≤ b j ∧ b j ≤ 122 := by
  by_cases c : 97 ≤ b i ∧ b i ≤ 122
  · rw [kd_L c] at h
    by_cases g : 8 < te b N i - i
    · rw [if_pos g] at h; omega
    · refine ⟨by omega, ?_⟩
      rw [te_L c]
      exact (rn_b (q := fun j => isLe (b j)) (N := N) (i := i) (by omega)).2.1
  · by_cases k : 48 ≤ b i ∧ b i ≤ 57
    · rw [kd_D c k] at h
      by_cases g : 4 < te b N i - i
      · rw [if_pos g] at h; omega
      · rw [if_neg g] at h; omega
    · rw [kd_S c k] at h; exact absurd h (sgk_n _).1
theorem df_bd {b : Int → Int} {i : Int} : ∀ m : Nat, (∀ j, i ≤ j → j < i + m → 48 ≤ b j ∧ b j ≤ 57) → 0 ≤ df b i m ∧ df b i m < 10 ^ m
  | 0, _ => by show (0 : Int) ≤ 0 ∧ (0 : Int) < 10 ^ 0; decide
  | m + 1, h => by
    have ih := df_bd m (fun j a c => h j a (by omega))
    have hb := h (i + m) (by omega) (by omega)
    show 0 ≤ 10 * df b i m + (b (i + m) - 48) ∧ 10 * df b i m + (b (i + m) - 48) < 10 ^ (m + 1)
    rw [Int.pow_succ]
    omega
theorem wf_bd {b : Int → Int} {i : Int} : ∀ m : Nat, (∀ j, i ≤ j → j < i + m → 97 ≤ b j ∧ b j ≤ 122) → 0 ≤ wf 32 b i m ∧ wf 32 b i m < 32 ^ m
  | 0, _ => by show (0 : Int) ≤ 0 ∧ (0 : Int) < 32 ^ 0; decide
  | m + 1, h => by
    have ih := wf_bd m (fun j a c => h j a (by omega))
    have hb := h (i + m) (by omega) (by omega)
    show 0 ≤ 32 * wf 32 b i m + (b (i + m) - 96) ∧ 32 * wf 32 b i m + (b (i + m) - 96) < 32 ^ (m + 1)
    rw [Int.pow_succ]
    omega
/-- what the tokens kept keep to -/
theorem tk_num {b : Int → Int} {N m : Int} {K P NU PK : Int → Int} (h : tkK b N m K P NU PK) (hN : N ≤ 2000) (hb : ∀ j, 0 ≤ j → j < m → 0 ≤ tp b N j.toNat) : (∀ j, 0 ≤ j → j < m → 0 ≤ K j ∧ K j ≤ 12) ∧ (∀ j, 0 ≤ j → j < m → K j = 5 → i64 (PK j)) ∧ (∀ j, 0 ≤ j → j < m → 0 ≤ P j ∧ P j ≤ 2000) ∧ (∀ j, 0 ≤ j → j < m → K j = 6 → 0 ≤ NU j ∧ NU j ≤ 9999) ∧ ∀ j, 0 ≤ j → j < m → K j = kK b N j := by
  refine ⟨fun j a c => ?_, fun j a c e => ?_, fun j a c => ?_, fun j a c e => ?_, fun j a c => (h j a c).2.1⟩
  · rw [(h j a c).2.1]; exact kd_b
  · obtain ⟨k1, k2, k3, k4, k5⟩ := h j a c
    rw [k2] at e
    have t := tok_5 k1 e
    rw [k5 (k2.trans e)]
    have q := te_b (b := b) k1
    have w := wf_bd (b := b) (i := tp b N j.toNat) (te b N (tp b N j.toNat) - tp b N j.toNat).toNat (fun x x0 x1 => t.2 x x0 (by omega))
    have l : (32 : Int) ^ (te b N (tp b N j.toNat) - tp b N j.toNat).toNat ≤ 32 ^ 8 := by
      have : (te b N (tp b N j.toNat) - tp b N j.toNat).toNat ≤ 8 := by omega
      generalize (te b N (tp b N j.toNat) - tp b N j.toNat).toNat = z at this
      have hz : z = 0 ∨ z = 1 ∨ z = 2 ∨ z = 3 ∨ z = 4 ∨ z = 5 ∨ z = 6 ∨ z = 7 ∨ z = 8 := by omega
      rcases hz with rfl | rfl | rfl | rfl | rfl | rfl | rfl | rfl | rfl <;> decide
    have l2 : (32 : Int) ^ 8 = 1099511627776 := by decide
    unfold i64
    omega
  · rw [(h j a c).2.2.1]
    have := (h j a c).1
    have := hb j a c
    omega
  · obtain ⟨k1, k2, k3, k4, k5⟩ := h j a c
    have e2 := e
    rw [k2] at e
    have t := tok_6 k1 e
    rw [k4 e2]
    have q := te_b (b := b) k1
    have w := df_bd (b := b) (i := tp b N j.toNat) (te b N (tp b N j.toNat) - tp b N j.toNat).toNat (fun x x0 x1 => t.2 x x0 (by omega))
    have l : (10 : Int) ^ (te b N (tp b N j.toNat) - tp b N j.toNat).toNat ≤ 10 ^ 4 := by
      have : (te b N (tp b N j.toNat) - tp b N j.toNat).toNat ≤ 4 := by omega
      generalize (te b N (tp b N j.toNat) - tp b N j.toNat).toNat = z at this
      have hz : z = 0 ∨ z = 1 ∨ z = 2 ∨ z = 3 ∨ z = 4 := by omega
      rcases hz with rfl | rfl | rfl | rfl | rfl <;> decide
    have l2 : (10 : Int) ^ 4 = 10000 := by decide
    omega
theorem tp_nn {b : Int → Int} {N : Int} (hN : 0 ≤ N) : ∀ k : Nat, (∀ j : Nat, j < k → tp b N j < N) → 0 ≤ tp b N k ∧ tp b N k ≤ N
  | 0, _ => by
    have g := (rn_b (q := fun j => isBl (b j)) (N := N) (i := 0) hN).1
    exact g
  | k + 1, h => by
    have ih := tp_nn hN k (fun j a => h j (by omega))
    have t := te_b (b := b) (h k (by omega))
    have g := (rn_b (q := fun j => isBl (b j)) (N := N) (i := te b N (tp b N k)) t.2).1
    show 0 ≤ sk b N (te b N (tp b N k)) ∧ sk b N (te b N (tp b N k)) ≤ N
    have e : sk b N (te b N (tp b N k)) = rn (fun j => isBl (b j)) N (te b N (tp b N k)) := rfl
    rw [e]
    omega
theorem tk_num2 {b : Int → Int} {N m : Int} {K P NU PK : Int → Int} (h : tkK b N m K P NU PK) (hN : 0 ≤ N ∧ N ≤ 2000) : (∀ j, 0 ≤ j → j < m → 0 ≤ K j ∧ K j ≤ 12) ∧ (∀ j, 0 ≤ j → j < m → K j = 5 → i64 (PK j)) ∧ (∀ j, 0 ≤ j → j < m → 0 ≤ P j ∧ P j ≤ 2000) ∧ (∀ j, 0 ≤ j → j < m → K j = 6 → 0 ≤ NU j ∧ NU j ≤ 9999) ∧ ∀ j, 0 ≤ j → j < m → K j = kK b N j :=
  tk_num h hN.2 (fun j a c => (tp_nn hN.1 j.toNat (fun i hi => by
    have := (h i (by omega) (by omega)).1
    rw [show ((i : Int)).toNat = i by omega] at this
    exact this)).1)
theorem amt_b {x : Int} {T : Nat} (h : x = T) (h2 : (T : Int) ≤ 400) : 0 ≤ x ∧ x ≤ 400 := by omega
/-- each number of a law is that of a token -/
theorem cLw_ex {K : Int → Int} {k : Int} : ∀ m : Nat, 0 ≤ k → k < cLw K m → ∃ j : Int, (0 ≤ j ∧ j < m) ∧ K j = 4 ∧ cLw K j = k
  | 0, h0, h => by
    have : cLw K ((0 : Nat) : Int) = 0 := rfl
    omega
  | m + 1, h0, h => by
    have e := cLw_s (K := K) (i := m) (by omega)
    rw [show ((m + 1 : Nat) : Int) = (m : Int) + 1 by omega, e] at h
    by_cases c : k < cLw K m
    · obtain ⟨j, hj, h1, h2⟩ := cLw_ex m h0 c
      exact ⟨j, by omega, h1, h2⟩
    · by_cases g : K m = 4
      · rw [if_pos g] at h
        exact ⟨m, by omega, g, by omega⟩
      · rw [if_neg g] at h
        omega
theorem lkQ_len {n D p : Int} {K V LG LR : Int → Int} {m : Int} (hm : 0 ≤ m) (h : lkQ n D p K V m LG LR m) : ∀ k, 0 ≤ k → k < cLw K m → 0 ≤ LG k ∧ LG k ≤ D := fun k a b => by
  obtain ⟨j, hj, h1, h2⟩ := cLw_ex (K := K) m.toNat a (by rw [show ((m.toNat : Nat) : Int) = m by omega]; exact b)
  have q := (h j hj.1 (by omega) h1).2.1.1
  rw [h2] at q
  exact q
theorem lkQ_cp {n D p q : Int} {K V LG LR LG' LR' : Int → Int} {m : Int} (h : lkQ n D p K V m LG LR m) (e : ∀ j, 0 ≤ j → j < q → LG' j = LG j ∧ ∀ w, 0 ≤ w → w < sW n D (LG j) → LR' (j * 256 + w) = LR (j * 256 + w)) (hq : q = cLw K m) : lkQ n D p K V m LG' LR' m := fun j a b c => by
  have k := h j a b c
  have c1 := cLw_s (K := K) a
  rw [if_pos c] at c1
  have c2 := (cLw_b (K := K) (i := j + 1) (j := m) (by omega) (by omega)).2
  have c3 := (cLw_b (K := K) (i := j) (j := j) a (Int.le_refl _)).1
  have g := e (cLw K j) c3 (by omega)
  rw [g.1]
  exact ⟨k.1, k.2.1, fun w w0 w1 => by rw [g.2 w w0 w1]; exact k.2.2 w w0 w1⟩
/-- hides a statement from the arithmetic -/
def Hd (P : Prop) : Prop := P
theorem hd_i {P : Prop} (h : P) : Hd P := h
theorem hd_e {P : Prop} (h : Hd P) : P := h
theorem un_b {r r1 : Int} {A B C D E F G H : Prop} {P Q S U W : Int → Prop} (h : (¬ r1 = 0 ∧ r = r1 ∧ A) ∨ (r1 = 0 ∧ B ∧ C ∧ r = 6 ∧ D) ∨ (r1 = 0 ∧ E ∧ F ∧ G ∧ ((r = 0 ∧ H) ∨ ∃ i, P i ∧ Q i ∧ S i ∧ U i ∧ r = 7 ∧ W i))) (h1 : 0 ≤ r1 ∧ r1 ≤ 5) : 0 ≤ r ∧ r ≤ 7 := by
  rcases h with ⟨_, h, _⟩ | ⟨_, _, _, h, _⟩ | ⟨_, _, _, _, h⟩
  · omega
  · omega
  · rcases h with ⟨h, _⟩ | ⟨i, _, _, _, _, h, _⟩ <;> omega
theorem un_z {r r1 : Int} {A B C D E F G H : Prop} {P Q S U W : Int → Prop} (h : (¬ r1 = 0 ∧ r = r1 ∧ A) ∨ (r1 = 0 ∧ B ∧ C ∧ r = 6 ∧ D) ∨ (r1 = 0 ∧ E ∧ F ∧ G ∧ ((r = 0 ∧ H) ∨ ∃ i, P i ∧ Q i ∧ S i ∧ U i ∧ r = 7 ∧ W i))) (hr : r = 0) : r1 = 0 ∧ E ∧ F ∧ G ∧ r = 0 ∧ H := by
  rcases h with ⟨a, h, _⟩ | ⟨_, _, _, h, _⟩ | ⟨a, b, c, d, h⟩
  · omega
  · omega
  · rcases h with h | ⟨i, _, _, _, _, h, _⟩
    · exact ⟨a, b, c, d, h⟩
    · omega
theorem tkO_r {al N r pl : Int} {b : Int → Int} {T : Nat} (h : tkO al b N T r pl) : 0 ≤ r ∧ r ≤ 2 := by
  obtain ⟨s, _, h⟩ := h
  rcases h with q | q | q
  · omega
  · omega
  · rw [q.2.2.1]
    unfold flt
    split
    · decide
    · split <;> decide
theorem tkO_e {al N r pl : Int} {b : Int → Int} {T : Nat} (h : tkO al b N T r pl) (e : r = 0) : tkO al b N T 0 pl := by
  rw [e] at h
  exact h
theorem lw_b {K : Int → Int} {x m : Int} (h : x = cLw K m) (hm : 0 ≤ m) (hc : cLw K m ≤ 8) : 0 ≤ x ∧ x ≤ 8 := by
  have := (cLw_b (K := K) hm (Int.le_refl m)).1
  omega
