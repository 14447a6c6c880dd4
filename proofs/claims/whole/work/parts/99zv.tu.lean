/-! terms put down one behind the other -/
/-- what one term more writes: w the word, h how much it shares with the one ahead -/
def tkR (s p n D : Int) (TS TH TL LT TS' TH' TL' LT' : Int → Int) (d t i w ah z : Int) : Prop := TS' = up TS t (qon s p z) ∧ ((∀ x, ¬ x = t → TH' x = TH x) ∧ (0 ≤ TH' t ∧ TH' t < d) ∧ (ah = -1 → TH' t = 0) ∧ ∀ j, 0 ≤ j → j < TH' t → w / sW n D (d - 1 - j) = ah / sW n D (d - 1 - j)) ∧ ((∀ j, 0 ≤ j → j < d → TL' (t * 7 + j) = w / sW n D (d - 1 - j) % n) ∧ ∀ x, (x < t * 7 ∨ t * 7 + d ≤ x) → TL' x = TL x) ∧ (∀ x, ¬ x = i → LT' x = LT x) ∧ LT i ≤ LT' i ∧ (-1 ≤ LT' i ∧ LT' i < n) ∧ ∀ j, 0 ≤ j → j < d → w / sW n D (d - 1 - j) % n ≤ LT' i
/-- within a law -/
def ttI (s p n D : Int) (TS TH TL LT row : Int → Int) (d a t i w ah : Int) : Prop := (a ≤ t ∧ t ≤ a + w) ∧ tmB s p n TS TH TL a t (LT i) d ∧ (-1 ≤ LT i ∧ LT i < n) ∧ (0 ≤ LT i → 1 ≤ d) ∧ ((ah = -1 ∧ a = t) ∨ (a < t ∧ (0 ≤ ah ∧ ah < w) ∧ ∀ j, 0 ≤ j → j < d → TL ((t - 1) * 7 + j) = ah / sW n D (d - 1 - j) % n)) ∧ ∀ v : Int → Int, q2E p (q2S (fun x => q2s (row x) (wpr (fun x => rh s p (v x)) n d.toNat x)) w.toNat) (tmV s p TS TL (fun x => rh s p (v x)) a d.toNat (t - a).toNat)
section TUC
variable {s p n D : Int} {TS TH TL LE LT TS' TH' TL' LE' LT' row : Int → Int} {d a t i w ah : Int}
theorem tt_0 (hl : LT i = -1) (hn : 0 ≤ n) : ttI s p n D TS TH TL LT row d t t i 0 (-1) :=
  ⟨by omega, fun x a b => by omega, by omega, fun q => by omega, .inl ⟨rfl, rfl⟩, fun v => by rw [Int.sub_self]; exact q2E_r p _⟩
theorem tt_skip (hw : 0 ≤ w) (h : ttI s p n D TS TH TL LT row d a t i w ah) (hr : row w = 0) : ttI s p n D TS TH TL LT row d a t i (w + 1) ah := by
  obtain ⟨h1, h2, h3, h4, h5, h6⟩ := h
  refine ⟨by omega, h2, h3, h4, ?_, fun v => ?_⟩
  · rcases h5 with g | ⟨g1, g2, g3⟩
    · exact .inl g
    · exact .inr ⟨g1, by omega, g3⟩
  · rw [q2S_s _ hw, ← row_0 hr]
    exact h6 v
theorem tpr_w (V : Int → q2) {TL : Int → Int} (hO : sOk n D p) (hd : 0 ≤ d ∧ d ≤ D) (hl : ∀ j, 0 ≤ j → j < d → TL (t * 7 + j) = w / sW n D (d - 1 - j) % n) : ∀ m : Nat, (m : Int) ≤ d → tpr V TL t m = wpr V n m (w / sW n D (d - m))
  | 0, _ => rfl
  | m + 1, h => by
    show q2m (tpr V TL t m) (V (TL (t * 7 + m))) = q2m (wpr V n m (w / sW n D (d - ((m + 1 : Nat) : Int)) / n)) (V (w / sW n D (d - ((m + 1 : Nat) : Int)) % n))
    rw [tpr_w V hO hd hl m (by omega), hl m (by omega) (by omega), show d - ((m + 1 : Nat) : Int) = d - 1 - m by omega, ← hd_s hO.1.1 (show 0 ≤ d - 1 - (m : Int) ∧ d - 1 - (m : Int) < D by omega), show d - 1 - (m : Int) + 1 = d - m by omega]
theorem tmV_x {V : Int → q2} {m : Nat} (h1 : ∀ x, a ≤ x → x < a + m → TS' x = TS x) (h2 : ∀ x, a * 7 ≤ x → x < (a + m) * 7 → TL' x = TL x) (hd : d ≤ 7) : tmV s p TS' TL' V a d.toNat m = tmV s p TS TL V a d.toNat m := by
  refine q2S_x m (fun k k0 k1 => ?_)
  have e : tpr V TL' (a + k) d.toNat = tpr V TL (a + k) d.toNat := by
    have : ∀ e : Nat, (e : Int) ≤ 7 → tpr V TL' (a + k) e = tpr V TL (a + k) e := by
      intro e
      induction e with
      | zero => intro _; rfl
      | succ e ih =>
        intro he
        show q2m (tpr V TL' (a + k) e) (V (TL' ((a + k) * 7 + e))) = q2m (tpr V TL (a + k) e) (V (TL ((a + k) * 7 + e)))
        rw [ih (by omega), h2 _ (by omega) (by omega)]
    exact this d.toNat (by omega)
  rw [e, h1 _ (by omega) (by omega)]
theorem tt_new (hO : sOk n D p) (hp : 2 ≤ p) (hd : 1 ≤ d ∧ d ≤ D) (hw : 0 ≤ w ∧ w < sW n D d) (h : ttI s p n D TS TH TL LT row d a t i w ah) (hk : tkR s p n D TS TH TL LT TS' TH' TL' LT' d t i w ah (row w)) (ha : 0 ≤ a) : ttI s p n D TS' TH' TL' LT' row d a (t + 1) i (w + 1) w := by
  obtain ⟨h1, h2, h3, h4, h5, h6⟩ := h
  obtain ⟨k1, ⟨k2, k3, k4, k5⟩, ⟨k6, k7⟩, k8, k9, k10, k11⟩ := hk
  have hD7 := hO.2.1.2
  have hn : 0 < n := (wd_lt hO hd.1 hw).1
  have hle : ∀ j, 0 ≤ w / sW n D (d - 1 - j) % n := fun j => Int.emod_nonneg _ (by omega)
  refine ⟨by omega, fun x x0 x1 => ?_, k10, fun _ => hd.1, .inr ⟨by omega, by omega, fun j a b => by rw [show t + 1 - 1 = t by omega]; exact k6 j a b⟩, fun v => ?_⟩
  · by_cases g : x = t
    · rw [g]
      refine ⟨by rw [k1, up_eq]; exact io_b hp _, k3, fun e => ?_, fun j a0 a1 => by rw [k6 j a0 a1]; exact ⟨hle j, k11 j a0 a1⟩, fun j a0 a1 => ?_⟩
      · rcases h5 with g5 | g5
        · exact k4 g5.1
        · omega
      · rw [k6 j a0 (by omega), k7 _ (by omega)]
        rcases h5 with g5 | ⟨g5, g6, g7⟩
        · have := k4 g5.1; omega
        · rw [g7 j a0 (by omega), k5 j a0 a1]
    · obtain ⟨b1, b2, b3, b4, b5⟩ := h2 x x0 (by omega)
      rw [k1, up_ne g, k2 x g]
      refine ⟨b1, b2, b3, fun j a0 a1 => ?_, fun j a0 a1 => ?_⟩
      · rw [k7 _ (by omega)]
        have := b4 j a0 a1; omega
      · rw [k7 _ (by omega), k7 _ (by omega)]
        exact b5 j a0 a1
  · rw [q2S_s _ hw.1, show t + 1 - a = (t - a) + 1 by omega, tmV_s _ _ _ _ _ (by omega)]
    have e := tmV_x (s := s) (p := p) (TS' := TS') (TS := TS) (TL' := TL') (TL := TL) (V := fun x => rh s p (v x)) (a := a) (d := d) (m := (t - a).toNat) (fun x x0 x1 => by rw [k1, up_ne (by omega)]) (fun x x0 x1 => k7 x (by omega)) (by omega)
    rw [e]
    refine q2E_a (h6 v) ?_
    rw [show a + (t - a) = t by omega, k1, up_eq, tpr_w (w := w) _ hO ⟨by omega, hd.2⟩ k6 d.toNat (by omega), show d - ((d.toNat : Nat) : Int) = 0 by omega, sW_0 (by omega), Int.ediv_one]
    refine q2E_s (q2E_t (q2E_m (rh_on hp _) (q2E_r p _)) (q2E_of ?_))
    rw [q2_c]
/-- a law's terms stay while others are written behind them -/
theorem tmA_c {ln : Int} {lc : Int → Int} {k B : Int} (h : tmA s p n D TS TH TL LE LT ln lc k) (hB : LE (k + 1) ≤ B) (h1 : ∀ x, x < B → TS' x = TS x) (h2 : ∀ x, x < B → TH' x = TH x) (h3 : ∀ x, x < B * 7 → TL' x = TL x) (h4 : LE' k = LE k ∧ LE' (k + 1) = LE (k + 1)) (h5 : LT' k = LT k) : tmA s p n D TS' TH' TL' LE' LT' ln lc k := by
  obtain ⟨g1, g2, g3, g4, g5, g6⟩ := h
  unfold tmA
  rw [h4.1, h4.2, h5]
  refine ⟨g1, g2, g3, g4, fun t a b => ?_, fun q v => ?_⟩
  · obtain ⟨b1, b2, b3, b4, b5⟩ := g5 t a b
    rw [h1 t (by omega), h2 t (by omega)]
    refine ⟨b1, b2, b3, fun j a0 a1 => by rw [h3 _ (by omega)]; exact b4 j a0 a1, fun j a0 a1 => by rw [h3 _ (by omega), h3 _ (by omega)]; exact b5 j a0 a1⟩
  · have e := tmV_x (s := s) (p := p) (TS' := TS') (TS := TS) (TL' := TL') (TL := TL) (V := fun x => rh s p (v x)) (a := LE k) (d := ln) (m := (LE (k + 1) - LE k).toNat) (fun x x0 x1 => h1 x (by omega)) (fun x x0 x1 => h3 x (by omega)) g4.2
    rw [e]
    exact g6 q v
/-- a law is through -/
theorem tt_end {lc : Int → Int} {t0 : Int} (h : ttI s p n D TS TH TL LT row d t0 t i w ah) (ha : 0 ≤ t0 ∧ t ≤ 2048) (hd : 0 ≤ d ∧ d ≤ 7) (hle : LE i = t0 ∧ LE (i + 1) = t) (hw : 0 < d → w = sW n D d) (hrow : 1 ≤ d → ∀ v : Int → Int, q2E p (q2S (fun x => q2s (row x) (wpr (fun x => rh s p (v x)) n d.toNat x)) (sW n D d).toNat) (lvl (fun x => rh s p (v x)) n (sW n D d) d.toNat lc)) : tmA s p n D TS TH TL LE LT d lc i := by
  obtain ⟨h1, h2, h3, h4, h5, h6⟩ := h
  unfold tmA
  rw [hle.1, hle.2]
  refine ⟨⟨ha.1, h1.1, ha.2⟩, h3, h4, hd, h2, fun q v => ?_⟩
  have := h6 v
  rw [hw q] at this
  exact q2E_t (q2E_s (hrow (by omega) v)) this
end TUC
/-- heads that are the same have the same heads -/
theorem hd_eq {n D p d w a j y : Int} (hO : sOk n D p) (hw : 0 ≤ w) (hy : 0 ≤ y) (hj : y ≤ j) (hd : j ≤ d - 1 ∧ d ≤ D) (h : w / sW n D (d - 1 - j) = a / sW n D (d - 1 - j)) : w / sW n D (d - 1 - y) = a / sW n D (d - 1 - y) := by
  have e : sW n D (d - 1 - y) = sW n D (d - 1 - j) * sW n D (j - y) := by rw [← sW_add (by omega) (by omega) (by omega), show d - 1 - j + (j - y) = d - 1 - y by omega]
  rw [e, ← Int.ediv_ediv_of_nonneg (sW_nn hO.1.1), ← Int.ediv_ediv_of_nonneg (sW_nn hO.1.1), h]
theorem ln_b {n D : Int} {LN : Int → Int} {m : Int} (h : ∀ i, 0 ≤ i → i < m → (0 ≤ LN i ∧ LN i ≤ D) ∧ (1 ≤ LN i → 0 < n)) (i : Int) (hD : 1 ≤ D) : (0 ≤ lnA LN m i ∧ lnA LN m i ≤ D) ∧ (1 ≤ lnA LN m i → 0 < n) := by
  unfold lnA
  by_cases g : 0 ≤ i ∧ i < m
  · rw [if_pos g]; exact h i g.1 g.2
  · rw [if_neg g]; exact ⟨by omega, fun q => by omega⟩
