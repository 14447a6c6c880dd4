/-! WHAT IS NOUGHT, length by length: the smallest spaces that hold the laws and all products by letters -/
def xl (W x : Int) (a : Int → Int) : Int → Int := fun j => if x * W ≤ j ∧ j < x * W + W then a (j - x * W) else 0
def xr (n x : Int) (a : Int → Int) : Int → Int := fun j => if j % n = x then a (j / n) else 0
def vBlk (n W : Int) (V : (Int → Int) → Prop) : (Int → Int) → Prop := fun v => ∀ x, 0 ≤ x → x < n → V (fun t => v (x * W + t))
def nV (n D p : Int) (LW : Int → (Int → Int) → Prop) : Nat → (Int → Int) → Prop
  | 0 => fun v => p ∣ v 0
  | d + 1 => fun v => ∀ U : (Int → Int) → Prop, vSub p (sW n D ((d : Int) + 1)) U → (∀ a, nV n D p LW d a → ∀ x, 0 ≤ x → x < n → U (xl (sW n D d) x a) ∧ U (xr n x a)) → (∀ r, LW ((d : Int) + 1) r → U r) → U v
theorem dv {W n w : Int} (hn : 0 ≤ n) (h0 : 0 ≤ w) (h1 : w < W * n) (hW : 0 ≤ W) : 0 < W ∧ 0 < n ∧ 0 ≤ w / W ∧ w / W < n ∧ 0 ≤ w % W ∧ w % W < W ∧ w / W * W + w % W = w := by
  have hW0 : 0 < W := by
    rcases Int.lt_or_le 0 W with h | h
    · exact h
    · have : W = 0 := by omega
      rw [this, Int.zero_mul] at h1; omega
  have hn0 : 0 < n := by
    rcases Int.lt_or_le 0 n with h | h
    · exact h
    · have : n = 0 := by omega
      rw [this, Int.mul_zero] at h1; omega
  refine ⟨hW0, hn0, Int.ediv_nonneg h0 hW, Int.ediv_lt_of_lt_mul hW0 (by rwa [Int.mul_comm]), Int.emod_nonneg _ (by omega), Int.emod_lt_of_pos _ hW0, ?_⟩
  have := Int.emod_add_mul_ediv w W
  rw [Int.mul_comm]; omega
theorem dv_q {W y t : Int} (h0 : 0 ≤ t) (h1 : t < W) : (y * W + t) / W = y ∧ (y * W + t) % W = t := by
  have hW : W ≠ 0 := by omega
  constructor
  · rw [Int.add_comm, Int.add_mul_ediv_right _ _ hW, Int.ediv_eq_zero_of_lt h0 h1, Int.zero_add]
  · rw [Int.add_comm, Int.add_mul_emod_self_right, Int.emod_eq_of_lt h0 h1]
theorem dv_in {W n y t : Int} (h0 : 0 ≤ t) (h1 : t < W) (h2 : 0 ≤ y) (h3 : y < n) : 0 ≤ y * W + t ∧ y * W + t < W * n := by
  have g1 := Int.mul_nonneg h2 (show 0 ≤ W by omega)
  have g2 : (y + 1) * W ≤ n * W := Int.mul_le_mul_of_nonneg_right (by omega) (by omega)
  rw [Int.add_mul, Int.one_mul, Int.mul_comm n W] at g2
  omega
theorem sm_blk {f : Int → Int} {W y : Int} (hW : 0 < W) (hz : ∀ w, 0 ≤ w → ¬ w / W = y → f w = 0) : ∀ m : Nat, 0 ≤ y → y < m → sm f (W.toNat * m) = sm (fun t => f (y * W + t)) W.toNat
  | 0, h0, h1 => by omega
  | m + 1, h0, h1 => by
    have hc : ((W.toNat * m : Nat) : Int) = m * W := by rw [Int.natCast_mul, show ((W.toNat : Nat) : Int) = W by omega, Int.mul_comm]
    rw [Nat.mul_succ, sm_cat]
    by_cases e : y = m
    · rw [sm_zero _ (fun j g0 g1 => hz j g0 ?_), Int.zero_add]
      · exact sm_ext _ (fun t _ _ => by rw [hc, e])
      · rw [hc] at g1
        have := Int.ediv_lt_of_lt_mul hW g1
        omega
    · have h2 : sm (fun t => f (((W.toNat * m : Nat) : Int) + t)) W.toNat = 0 := sm_zero W.toNat (fun t g0 g1 => hz _ (by omega) (by rw [hc, (dv_q g0 (by omega)).1]; omega))
      rw [sm_blk hW hz m h0 (by omega), h2, Int.add_zero]
section GEN
variable {p W n : Int} {V V2 : (Int → Int) → Prop} {F : Int → Int → Int} {L : Int → Int}
theorem toNat_mul' {a b : Int} (ha : 0 ≤ a) (hb : 0 ≤ b) : (a * b).toNat = a.toNat * b.toNat := by
  have h := Int.mul_nonneg ha hb
  have : (((a * b).toNat : Nat) : Int) = ((a.toNat * b.toNat : Nat) : Int) := by
    rw [Int.natCast_mul, Int.toNat_of_nonneg h, Int.toNat_of_nonneg ha, Int.toNat_of_nonneg hb]
  exact Int.ofNat.inj this
theorem cD_blk (h : cD p W V F L) (hn : 0 ≤ n) (hW : 0 ≤ W) {F' : Int → Int → Int} {L' : Int → Int} (hF : ∀ w k, 0 ≤ w → w < W * n → 0 ≤ k → k < W * n → F' w k = if k / W = w / W then F (w % W) (k % W) else 0) (hL : ∀ w, 0 ≤ w → w < W * n → L' w = L (w % W)) : cD p (W * n) (vBlk n W V) F' L' := by
  obtain ⟨hr, hu, hk, hN, h01, hV⟩ := id h
  have hmono : ∀ w k, 0 ≤ w → w < k → k < W * n → k / W = w / W → w % W < k % W := fun w k g0 g1 g2 e => by
    obtain ⟨a1, a2, a3, a4, a5, a6, a7⟩ := dv hn g0 (by omega) hW
    obtain ⟨b1, b2, b3, b4, b5, b6, b7⟩ := dv hn (w := k) (by omega) g2 hW
    rw [e] at b7
    omega
  refine ⟨fun w k g0 g1 g2 g3 => ?_, fun w k g0 g1 g2 => ?_, fun w k g0 g1 g2 g3 e => ?_, fun w g0 g1 e k g2 g3 => ?_, fun w g0 g1 => ?_, fun v => ?_⟩
  · obtain ⟨a1, a2, a3, a4, a5, a6, a7⟩ := dv hn g0 g1 hW
    obtain ⟨b1, b2, b3, b4, b5, b6, b7⟩ := dv hn g2 g3 hW
    rw [hF w k g0 g1 g2 g3]
    have h1 := hr (w % W) (k % W) a5 a6 b5 b6
    split <;> omega
  · obtain ⟨a1, a2, a3, a4, a5, a6, a7⟩ := dv hn g0 (by omega) hW
    obtain ⟨b1, b2, b3, b4, b5, b6, b7⟩ := dv hn (w := k) (by omega) g2 hW
    rw [hF w k g0 (by omega) (by omega) g2]
    split
    · rename_i e
      exact hu _ _ a5 (hmono w k g0 g1 g2 e) b6
    · rfl
  · obtain ⟨a1, a2, a3, a4, a5, a6, a7⟩ := dv hn g0 g1 hW
    obtain ⟨b1, b2, b3, b4, b5, b6, b7⟩ := dv hn g2 g3 hW
    rw [hF w k g0 g1 g2 g3]
    rw [hL k g2 g3] at e
    split
    · exact hk _ _ a5 a6 b5 b6 e
    · rfl
  · obtain ⟨a1, a2, a3, a4, a5, a6, a7⟩ := dv hn g0 g1 hW
    obtain ⟨b1, b2, b3, b4, b5, b6, b7⟩ := dv hn g2 g3 hW
    rw [hF w k g0 g1 g2 g3]
    rw [hL w g0 g1] at e
    by_cases c : k = w
    · rw [c, if_pos rfl, if_pos rfl, hN _ a5 a6 e _ a5 a6, if_pos rfl]
    · rw [if_neg c]
      split
      · rename_i e2
        rw [hN _ a5 a6 e _ b5 b6, if_neg]
        intro e3
        rw [e2, e3] at b7
        omega
      · rfl
  · obtain ⟨a1, a2, a3, a4, a5, a6, a7⟩ := dv hn g0 g1 hW
    rw [hL w g0 g1]
    exact h01 _ a5 a6
  · have key : ∀ y k, 0 ≤ y → y < n → 0 ≤ k → k < W → sm (fun w => v w * F' w (y * W + k)) (W * n).toNat = sm (fun t => v (y * W + t) * F t k) W.toNat := fun y k g0 g1 g2 g3 => by
      have hW0 : 0 < W := by omega
      obtain ⟨i0, i1⟩ := dv_in (n := n) g2 g3 g0 g1
      have e1 : sm (fun w => v w * F' w (y * W + k)) (W * n).toNat = sm (fun w => v w * (if y = w / W then F (w % W) k else 0)) (W * n).toNat := sm_ext _ (fun w q0 q1 => by
        have q2 := dv_q (y := y) g2 g3
        rw [hF w _ q0 (by omega) i0 i1, q2.1, q2.2])
      rw [e1, toNat_mul' hW hn, sm_blk (y := y) hW0 (fun w _ e => by rw [if_neg (fun q => e q.symm), Int.mul_zero]) n.toNat g0 (by omega)]
      exact sm_ext _ (fun t q0 q1 => by
        have q2 := dv_q (y := y) q0 (show t < W by omega)
        show v (y * W + t) * (if y = (y * W + t) / W then F ((y * W + t) % W) k else 0) = _
        rw [q2.1, q2.2, if_pos rfl])
    constructor
    · intro hb k g0 g1
      obtain ⟨b1, b2, b3, b4, b5, b6, b7⟩ := dv hn g0 g1 hW
      have := (hV _).mp (hb (k / W) b3 b4) (k % W) b5 b6
      rw [← key (k / W) (k % W) b3 b4 b5 b6, b7] at this
      exact this
    · intro hz x g0 g1
      refine (hV _).mpr (fun k g2 g3 => ?_)
      obtain ⟨i0, i1⟩ := dv_in (n := n) g2 g3 g0 g1
      have := hz (x * W + k) i0 i1
      rw [key x k g0 g1 g2 g3] at this
      exact this
theorem xl_at {x y t : Int} (a : Int → Int) (h0 : 0 ≤ t) (h1 : t < W) : xl W x a (y * W + t) = if y = x then a t else 0 := by
  unfold xl
  by_cases e : y = x
  · rw [if_pos e, e, if_pos (by omega), show x * W + t - x * W = t by omega]
  · rw [if_neg e, if_neg]
    rintro ⟨g1, g2⟩
    rcases Int.lt_or_le y x with c | c
    · have : (y + 1) * W ≤ x * W := Int.mul_le_mul_of_nonneg_right (by omega) (by omega)
      rw [Int.add_mul, Int.one_mul] at this
      omega
    · have : (x + 1) * W ≤ y * W := Int.mul_le_mul_of_nonneg_right (by omega) (by omega)
      rw [Int.add_mul, Int.one_mul] at this
      omega
theorem xl_blk (h : vSub p W V) {a : Int → Int} (ha : V a) (x : Int) : vBlk n W V (xl W x a) := by
  intro y _ _
  by_cases e : y = x
  · exact vS_ext h ha (fun t h0 h1 => mE_of (by rw [xl_at a h0 h1, if_pos e]))
  · exact vS_ext h h.1 (fun t h0 h1 => mE_of (by rw [xl_at a h0 h1, if_neg e]))
theorem xl_pull (h : vSub p (W * n) V2) (x : Int) : vSub p W (fun a => V2 (xl W x a)) := by
  refine ⟨vS_ext h h.1 (fun j _ _ => mE_of ?_), fun a b c ha hb => vS_ext h (vS_add h ha hb c) (fun j _ _ => mE_of ?_), fun a b hab ha => vS_ext h ha (fun j _ _ => ?_)⟩
  · unfold xl; split <;> rfl
  · show xl W x a j + c * xl W x b j = xl W x (fun j => a j + c * b j) j
    unfold xl
    split
    · rfl
    · omega
  · unfold xl
    split
    · exact mE_iff.mpr (hab _ (by omega) (by omega))
    · exact mE_rfl p 0
theorem xr_pull (h : vSub p (W * n) V2) (hn : 0 < n) (x : Int) : vSub p W (fun a => V2 (xr n x a)) := by
  refine ⟨vS_ext h h.1 (fun j _ _ => mE_of ?_), fun a b c ha hb => vS_ext h (vS_add h ha hb c) (fun j _ _ => mE_of ?_), fun a b hab ha => vS_ext h ha (fun j g0 g1 => ?_)⟩
  · unfold xr; split <;> rfl
  · show xr n x a j + c * xr n x b j = xr n x (fun j => a j + c * b j) j
    unfold xr
    split
    · rfl
    · omega
  · unfold xr
    split
    · exact mE_iff.mpr (hab _ (Int.ediv_nonneg g0 (by omega)) (Int.ediv_lt_of_lt_mul hn g1))
    · exact mE_rfl p 0
theorem xr_xl {x y j : Int} (hn : 0 < n) (c : Int → Int) : xr n x (xl W y c) j = xl (W * n) y (xr n x c) j := by
  show (if j % n = x then (if y * W ≤ j / n ∧ j / n < y * W + W then c (j / n - y * W) else 0) else 0) = (if y * (W * n) ≤ j ∧ j < y * (W * n) + W * n then (if (j - y * (W * n)) % n = x then c ((j - y * (W * n)) / n) else 0) else 0)
  have e1 : y * (W * n) = y * W * n := (Int.mul_assoc _ _ _).symm
  have e2 : y * (W * n) + W * n = (y * W + W) * n := by rw [Int.add_mul, e1]
  have h1 : y * (W * n) ≤ j ↔ y * W ≤ j / n := by rw [e1]; exact (Int.le_ediv_iff_mul_le hn).symm
  have h2 : j < y * (W * n) + W * n ↔ j / n < y * W + W := by rw [e2]; exact (Int.ediv_lt_iff_lt_mul hn).symm
  have h3 : (j - y * (W * n)) % n = j % n := by rw [e1]; exact Int.sub_mul_emod_self_right _ _ _
  have h4 : (j - y * (W * n)) / n = j / n - y * W := by
    rw [e1, Int.sub_eq_add_neg, ← Int.neg_mul, Int.add_mul_ediv_right _ _ (by omega)]; omega
  rw [h3, h4]
  by_cases c1 : y * W ≤ j / n ∧ j / n < y * W + W
  · have c2 : y * (W * n) ≤ j ∧ j < y * (W * n) + W * n := ⟨h1.mpr c1.1, h2.mpr c1.2⟩
    rw [if_pos c1, if_pos c2]
  · have c2 : ¬ (y * (W * n) ≤ j ∧ j < y * (W * n) + W * n) := fun q => c1 ⟨h1.mp q.1, h2.mp q.2⟩
    rw [if_neg c1, if_neg c2]
    split <;> rfl
/-- a row out of its parts by first letters -/
theorem vBlk_le (hV2 : vSub p (W * n) V2) (hn : 0 ≤ n) (hW : 0 ≤ W) (h : ∀ a, V a → ∀ x, 0 ≤ x → x < n → V2 (xl W x a)) {v : Int → Int} (hv : vBlk n W V v) : V2 v := by
  have h1 := vS_sm hV2 (fun _ => 1) (fun x => xl W x (fun t => v (x * W + t))) n.toNat (fun x g0 g1 _ => h _ (hv x g0 (by omega)) x g0 (by omega))
  refine vS_ext hV2 h1 (fun j g0 g1 => mE_of ?_)
  obtain ⟨b1, b2, b3, b4, b5, b6, b7⟩ := dv hn g0 g1 hW
  have e : ∀ x, xl W x (fun t => v (x * W + t)) j = if j / W = x then v j else 0 := fun x => by
    have := xl_at (W := W) (x := x) (y := j / W) (fun t => v (x * W + t)) b5 b6
    rw [b7] at this
    rw [this]
    by_cases c : j / W = x
    · rw [if_pos c, if_pos c, ← c, b7]
    · rw [if_neg c, if_neg c]
  show sm (fun x => 1 * xl W x (fun t => v (x * W + t)) j) n.toNat = v j
  rw [sm_one (k := j / W) _ b3 (by omega) (fun x _ _ c => by rw [e, if_neg (fun q => c q.symm), Int.mul_zero]), e, if_pos rfl, Int.one_mul]
end GEN
section NV
variable {n D p : Int} {LW : Int → (Int → Int) → Prop}
theorem nV_sub (hp : 0 < p) : ∀ d : Nat, 0 ≤ D → vSub p (sW n D d) (nV n D p LW d)
  | 0, hD => by
    have e : sW n D ((0 : Nat) : Int) = 1 := sW_0 hD
    rw [e]
    refine ⟨⟨0, (Int.mul_zero p).symm⟩, fun a b c ha hb => Int.dvd_add ha (Int.dvd_mul_of_dvd_right hb), fun a b hab ha => ?_⟩
    exact mE_0.mp (mE_trans (mE_symm (mE_iff.mpr (hab 0 (by omega) (by omega)))) (mE_0.mpr ha))
  | d + 1, _ => by
    refine ⟨fun U hU _ _ => hU.1, fun a b c ha hb U hU h1 h2 => hU.2.1 a b c (ha U hU h1 h2) (hb U hU h1 h2), fun a b hab ha U hU h1 h2 => hU.2.2 a b ?_ (ha U hU h1 h2)⟩
    rw [show (((d + 1 : Nat) : Nat) : Int) = (d : Int) + 1 by omega] at hab
    exact hab
theorem nV_xl {d : Nat} {a : Int → Int} (ha : nV n D p LW d a) {x : Int} (h0 : 0 ≤ x) (h1 : x < n) : nV n D p LW (d + 1) (xl (sW n D d) x a) := fun _ _ h _ => (h a ha x h0 h1).1
theorem nV_xr {d : Nat} {a : Int → Int} (ha : nV n D p LW d a) {x : Int} (h0 : 0 ≤ x) (h1 : x < n) : nV n D p LW (d + 1) (xr n x a) := fun _ _ h _ => (h a ha x h0 h1).2
theorem nV_law {d : Nat} {r : Int → Int} (hr : LW ((d : Int) + 1) r) : nV n D p LW (d + 1) r := fun _ _ _ h => h r hr
/-- the class's way: the parts by first letters, and what leads anew by a letter behind -/
theorem nV_class {d : Nat} {q : Int} (hO : sOk n D q) (hp : sPr p) (hdD : (d : Int) + 1 ≤ D) {F F0 : Int → Int → Int} {L L0 : Int → Int} (h1 : cD p (sW n D d) (nV n D p LW d) F L) (h0 : 1 ≤ d → cD p (sW n D ((d : Int) - 1)) (nV n D p LW (d - 1)) F0 L0) {V2 : (Int → Int) → Prop} (hV2 : vSub p (sW n D d * n) V2)
    (hB : ∀ v, vBlk n (sW n D d) (nV n D p LW d) v → V2 v) (hC : ∀ w, 0 ≤ w → w < sW n D d → L w = 1 → 1 ≤ d → L0 (w % sW n D ((d : Int) - 1)) = 0 → ∀ x, 0 ≤ x → x < n → V2 (xr n x (fun j => eW w j - F w j))) (hD : ∀ r, LW ((d : Int) + 1) r → V2 r) (hA : ∀ v, V2 v → nV n D p LW (d + 1) v) : V2 = nV n D p LW (d + 1) := by
  have hn : 0 ≤ n := hO.1.1
  have hp2 := hp.1
  have hW : 0 ≤ sW n D d := sW_nn hn
  have hs1 := nV_sub (n := n) (LW := LW) (by omega : 0 < p) d (show 0 ≤ D by omega)
  have hxr : ∀ x, 0 ≤ x → x < n → ∀ m : Nat, (m : Int) ≤ sW n D d → ∀ a, nV n D p LW d a → (∀ j : Int, m ≤ j → j < sW n D d → p ∣ a j) → V2 (xr n x a) := by
    intro x hx0 hx1 m
    have hpull := xr_pull (n := n) hV2 (by omega) x
    induction m with
    | zero =>
      intro _ a _ hz
      refine vS_ext hpull hpull.1 (fun j g0 g1 => mE_symm (mE_0.mpr (hz j (by omega) g1)))
    | succ m ih =>
      intro hm a ha hz
      by_cases c : p ∣ a m
      · refine ih (by omega) a ha (fun j g0 g1 => ?_)
        by_cases e : j = m
        · rw [e]; exact c
        · exact hz j (by omega) g1
      · have htop : hasTop p (sW n D d) (nV n D p LW d) m := ⟨a, ha, c, fun j g0 g1 => hz j (by omega) g1⟩
        have hLm := (cD_top h1 (by omega) (by omega) hp2).mp htop
        -- it is enough to have one row of nought whose greatest word is m
        have suff : ∀ b, nV n D p LW d b → V2 (xr n x b) → b m = 1 → (∀ j : Int, (m : Int) < j → j < sW n D d → b j = 0) → V2 (xr n x a) := by
          intro b hb hb2 hbm hbj
          have h3 := ih (by omega) _ (vS_add hs1 ha hb (-(a m))) (fun j g0 g1 => by
            show p ∣ a j + -(a m) * b j
            by_cases e : j = m
            · rw [e, hbm]; exact ⟨0, by omega⟩
            · rw [hbj j (by omega) g1, Int.mul_zero, Int.add_zero]
              exact hz j (by omega) g1)
          refine vS_ext hpull (vS_add hpull h3 hb2 (a m)) (fun j _ _ => mE_of ?_)
          show a j + -(a m) * b j + a m * b j = a j
          grind
        by_cases hd : 1 ≤ d
        · by_cases e : L0 ((m : Int) % sW n D ((d : Int) - 1)) = 0
          · have hm0 : (0 : Int) ≤ m := by omega
            refine suff (fun j => eW m j - F m j) (cD_e h1 hm0 (by omega)) (hC m hm0 (by omega) hLm hd e x hx0 hx1) ?_ (fun j g0 g1 => ?_)
            · show eW m m - F m m = 1
              rw [h1.2.2.1 m m hm0 (by omega) hm0 (by omega) hLm]
              unfold eW; rw [if_pos rfl]; rfl
            · show eW m j - F m j = 0
              rw [h1.2.1 m j hm0 g0 g1]
              unfold eW; rw [if_neg (by omega)]; rfl
          · -- a letter ahead of what is nought already
            obtain ⟨d', rfl⟩ : ∃ d', d = d' + 1 := ⟨d - 1, by omega⟩
            have h0 := h0 hd
            rw [show (((d' + 1 : Nat) : Int)) - 1 = (d' : Int) by omega] at h0 e
            rw [show d' + 1 - 1 = d' by omega] at h0
            have hWs : sW n D ((d' + 1 : Nat) : Int) = sW n D d' * n := by
              rw [show (((d' + 1 : Nat) : Int)) = (d' : Int) + 1 by omega]
              exact sW_succ (by omega) (by omega)
            have hW0 : 0 ≤ sW n D (d' : Int) := sW_nn hn
            obtain ⟨b1, b2, b3, b4, b5, b6, b7⟩ := dv (w := (m : Int)) hn (by omega) (by rw [← hWs]; omega) hW0
            have hL0 : L0 ((m : Int) % sW n D d') = 1 := by
              rcases h0.2.2.2.2.1 _ b5 b6 with g | g
              · exact absurd g e
              · exact g
            have hb := cD_e h0 b5 b6
            refine suff (xl (sW n D d') ((m : Int) / sW n D d') (fun j => eW ((m : Int) % sW n D d') j - F0 ((m : Int) % sW n D d') j)) (nV_xl hb b3 b4) ?_ ?_ (fun j g0 g1 => ?_)
            · have h5 := nV_xr hb hx0 hx1
              have h6 := hB _ (xl_blk (n := n) hs1 h5 ((m : Int) / sW n D d'))
              refine vS_ext hV2 h6 (fun j _ _ => mE_of ?_)
              rw [hWs]
              exact (xr_xl b2 _).symm
            · have := xl_at (W := sW n D d') (x := (m : Int) / sW n D d') (y := (m : Int) / sW n D d') (fun j => eW ((m : Int) % sW n D d') j - F0 ((m : Int) % sW n D d') j) b5 b6
              rw [b7, if_pos rfl] at this
              rw [this, h0.2.2.1 _ _ b5 b6 b5 b6 hL0]
              unfold eW; rw [if_pos rfl]; rfl
            · rw [hWs] at g1
              obtain ⟨c1, c2, c3, c4, c5, c6, c7⟩ := dv (w := j) hn (by omega) g1 hW0
              have := xl_at (W := sW n D d') (x := (m : Int) / sW n D d') (y := j / sW n D d') (fun j => eW ((m : Int) % sW n D d') j - F0 ((m : Int) % sW n D d') j) c5 c6
              rw [c7] at this
              rw [this]
              split
              · rename_i e2
                have : (m : Int) % sW n D d' < j % sW n D d' := by rw [e2] at c7; omega
                rw [h0.2.1 _ _ b5 this c6]
                unfold eW; rw [if_neg (by omega)]; rfl
              · rfl
        · exfalso
          have : d = 0 := by omega
          subst this
          have e0 : sW n D ((0 : Nat) : Int) = 1 := sW_0 (by omega)
          have hm0 : (m : Int) = 0 := by omega
          apply c
          rw [hm0]
          exact ha
  refine funext fun v => propext ⟨hA v, fun hv => hv V2 ?_ (fun a ha x hx0 hx1 => ⟨hB _ (xl_blk hs1 ha x), ?_⟩) hD⟩
  · rw [sW_succ (by omega) (by omega)]; exact hV2
  · exact hxr x hx0 hx1 (sW n D d).toNat (by omega) a ha (fun j g0 g1 => by omega)
/-- the model's way: all products of the rows kept -/
theorem nV_model {d : Nat} {q : Int} (hO : sOk n D q) (hp : sPr p) (hdD : (d : Int) + 1 ≤ D) {R : Int → Int → Int} {L : Int → Int} (h1 : mD p (sW n D d) (nV n D p LW d) R L) {V2 : (Int → Int) → Prop} (hV2 : vSub p (sW n D d * n) V2)
    (hC : ∀ w, 0 ≤ w → w < sW n D d → L w = 1 → ∀ x, 0 ≤ x → x < n → V2 (xl (sW n D d) x (R w)) ∧ V2 (xr n x (R w))) (hD : ∀ r, LW ((d : Int) + 1) r → V2 r) (hA : ∀ v, V2 v → nV n D p LW (d + 1) v) : V2 = nV n D p LW (d + 1) := by
  have hn : 0 ≤ n := hO.1.1
  refine funext fun v => propext ⟨hA v, fun hv => hv V2 ?_ (fun a ha x hx0 hx1 => ⟨?_, ?_⟩) hD⟩
  · rw [sW_succ (by omega) (by omega)]; exact hV2
  · exact mD_le h1 (xl_pull (n := n) hV2 x) (fun k g0 g1 e => (hC k g0 g1 e x hx0 hx1).1) ha
  · exact mD_le h1 (xr_pull (n := n) hV2 (by omega) x) (fun k g0 g1 e => (hC k g0 g1 e x hx0 hx1).2) ha
theorem nV_blk {d : Nat} {q : Int} (hO : sOk n D q) (hp : 0 < p) (hdD : (d : Int) + 1 ≤ D) {v : Int → Int} (hv : vBlk n (sW n D d) (nV n D p LW d) v) : nV n D p LW (d + 1) v := by
  have hn : 0 ≤ n := hO.1.1
  have hs2 := nV_sub (n := n) (LW := LW) hp (d + 1) (show 0 ≤ D by omega)
  rw [show (((d + 1 : Nat) : Int)) = (d : Int) + 1 by omega, sW_succ (by omega) (by omega)] at hs2
  exact vBlk_le hs2 hn (sW_nn hn) (fun a ha x h0 h1 => nV_xl ha h0 h1) hv
end NV
