/-! the model's rows of one length: a row joined, products by letters, cell by cell -/
theorem vAdd_congr {p W : Int} {V : (Int → Int) → Prop} (h : vSub p W V) {r s : Int → Int} (e : ∀ j, 0 ≤ j → j < W → mE p (r j) (s j)) : vAdd V r = vAdd V s :=
  funext fun v => propext ⟨fun ⟨c, hc⟩ => ⟨c, vS_ext h hc (fun j h0 h1 => mE_sub (mE_rfl p _) (mE_mul (mE_rfl p c) (e j h0 h1)))⟩, fun ⟨c, hc⟩ => ⟨c, vS_ext h hc (fun j h0 h1 => mE_sub (mE_rfl p _) (mE_mul (mE_rfl p c) (mE_symm (e j h0 h1))))⟩⟩
theorem rd_l {p W l : Int} {L X0 X : Int → Int} {R : Int → Int → Int} (h : rdI p W L R X0 X (-1) l) : (l = -1 ∧ ∀ x, 0 ≤ x → x < W → X x = 0) ∨ ((0 ≤ l ∧ l < W) ∧ ¬ X l = 0 ∧ L l = 0 ∧ ∀ x, l < x → x < W → X x = 0) := by
  obtain ⟨g1, g2, g3, g4, g5, g6⟩ := h
  rcases g5 with ⟨e1, e2⟩ | ⟨e1, e2, e3, e4, e5⟩
  · exact .inl ⟨e1, fun x h0 h1 => e2 x (by omega) h1⟩
  · exact .inr ⟨by omega, e3, e4, e5⟩
theorem joins_no {p W l : Int} {V : (Int → Int) → Prop} {L r X : Int → Int} {R : Int → Int → Int} (hp : sPr p) (h : mD p W V R L) (hrd : rdI p W L R r X (-1) l) (hl : l < 0) : mD p W (vAdd V r) R L := by
  refine mD_same h ?_
  rcases rd_l hrd with ⟨e1, e2⟩ | ⟨e1, -⟩
  · refine vS_ext (mD_sub h) (mD_rd h hp hrd).1 (fun j h0 h1 => mE_of ?_)
    show r j - X j = r j
    rw [e2 j h0 h1, Int.sub_zero]
  · omega
theorem joins_yes {p W l b Q S : Int} {V : (Int → Int) → Prop} {f g r X Y : Int → Int} (hp : sPr p) (h : mD p W V (fun k x => f (Q + k * W + x)) (fun x => g (S + x))) (hrd : rdI p W (fun x => g (S + x)) (fun k x => f (Q + k * W + x)) r X (-1) l) (hl : 0 ≤ l) (hb : (X l * b) % p = 1) (hY : Y = seg f (Q + l * W) W (fun j => (X j * b) % p)) : mD p W (vAdd V r) (fun k x => Y (Q + k * W + x)) (fun x => up g (S + l) 1 (S + x)) := by
  rcases rd_l hrd with ⟨e1, -⟩ | ⟨e1, e2, e3, e4⟩
  · omega
  · refine mD_ins h hp (mD_rd h hp hrd).1 e1.1 e1.2 e3 e4 (b := b) (mE_ofmod (by rw [hb]; exact (Int.emod_eq_of_lt (by decide) (by have := hp.1; omega)).symm)) _ _ (fun k j h0 h1 h2 h3 => ?_) (fun k h0 h1 => ?_)
    · show Y (Q + k * W + j) = if k = l then (X j * b) % p else f (Q + k * W + j)
      rw [hY]
      by_cases c : k = l
      · rw [if_pos c, c, seg_in ⟨h2, h3⟩]
      · have := sq_ne (W := W) ⟨h2, h3⟩ c
        rw [if_neg c, seg_out (by omega)]
    · show up g (S + l) 1 (S + k) = if k = l then 1 else g (S + k)
      unfold up
      by_cases c : k = l
      · rw [if_pos (by omega), if_pos c]
      · rw [if_neg (by omega), if_neg c]
theorem xl_row {p W n x : Int} {A B a : Int → Int} (hW : 0 ≤ W) (hn : 0 ≤ n) (hx : 0 ≤ x ∧ x < n) (hB : B = seg (seg A 0 (W * n) (fun _ => 0)) (x * W) W a) : ∀ j, 0 ≤ j → j < W * n → B j = xl W x a j := by
  intro j h0 h1
  rw [hB]
  unfold seg xl
  by_cases c : x * W ≤ j ∧ j < x * W + W
  · rw [if_pos c, if_pos c]
  · rw [if_neg c, if_neg c, if_pos (by omega)]
def xrF (n x : Int) (a : Int → Int) (k : Int) : Int → Int := fun y => if y % n = x ∧ y / n < k then a (y / n) else 0
theorem xr_0 {n x m : Int} {A a : Int → Int} (hn : 0 < n) : seg A 0 m (fun _ => 0) = seg A 0 m (xrF n x a 0) := seg_ext (fun y h0 _ => by
  unfold xrF
  have := Int.ediv_nonneg h0 (show 0 ≤ n by omega)
  rw [if_neg (by omega)])
theorem xr_st {n x m k v : Int} {A B a : Int → Int} (hx : 0 ≤ x ∧ x < n) (hB : B = seg A 0 m (xrF n x a k)) (hk : 0 ≤ k * n + x ∧ k * n + x < m) (hv : v = a k) : up B (k * n + x) v = seg A 0 m (xrF n x a (k + 1)) := by
  rw [hB, up_seg0 hk]
  refine seg_ext (fun y h0 h1 => ?_)
  have hq := dv_q (y := k) hx.1 hx.2
  unfold up xrF
  by_cases c : y = k * n + x
  · rw [if_pos c, c, hq.1, hq.2, if_pos ⟨rfl, by omega⟩, hv]
  · rw [if_neg c]
    by_cases c2 : y % n = x ∧ y / n < k
    · rw [if_pos c2, if_pos ⟨c2.1, by omega⟩]
    · rw [if_neg c2, if_neg]
      rintro ⟨g1, g2⟩
      have h3 := Int.emod_add_mul_ediv y n
      have h4 : y / n = k := by omega
      rw [h4, g1, Int.mul_comm] at h3
      omega
theorem xr_row {W n x : Int} {A B a : Int → Int} (hx : 0 ≤ x ∧ x < n) (hB : B = seg A 0 (W * n) (xrF n x a W)) : ∀ j, 0 ≤ j → j < W * n → B j = xr n x a j := by
  intro j h0 h1
  have hd := Int.ediv_lt_of_lt_mul (show 0 < n by omega) h1
  rw [hB, seg_in0 ⟨h0, h1⟩]
  unfold xrF xr
  by_cases c : j % n = x
  · rw [if_pos ⟨c, hd⟩, if_pos c]
  · rw [if_neg (fun q => c q.1), if_neg c]
theorem xl_r {W x p : Int} {a : Int → Int} (hp : 0 < p) (ha : ∀ j, 0 ≤ j → j < W → 0 ≤ a j ∧ a j < p) (j : Int) : 0 ≤ xl W x a j ∧ xl W x a j < p := by
  unfold xl
  split
  · exact ha _ (by omega) (by omega)
  · omega
theorem xr_r {W n x p : Int} {a : Int → Int} (hp : 0 < p) (hn : 0 < n) (ha : ∀ j, 0 ≤ j → j < W → 0 ≤ a j ∧ a j < p) (j : Int) (h0 : 0 ≤ j) (h1 : j < W * n) : 0 ≤ xr n x a j ∧ xr n x a j < p := by
  unfold xr
  split
  · exact ha _ (Int.ediv_nonneg h0 (by omega)) (Int.ediv_lt_of_lt_mul hn h1)
  · omega
theorem mD_ext {p W : Int} {V : (Int → Int) → Prop} {R R' : Int → Int → Int} {L L' : Int → Int} (h : mD p W V R L) (hR : ∀ k j, 0 ≤ k → k < W → 0 ≤ j → j < W → R' k j = R k j) (hL : ∀ k, 0 ≤ k → k < W → L' k = L k) : mD p W V R' L' := by
  obtain ⟨a, b, c, d, e⟩ := h
  have hrsp : ∀ t j, 0 ≤ j → j < W → rsp L' R' t W j = rsp L R t W j := fun t j h0 h1 => sm_ext _ (fun x g0 g1 => by
    show (if L' x = 1 then t x * R' x j else 0) = (if L x = 1 then t x * R x j else 0)
    rw [hL x g0 (by omega), hR x j g0 (by omega) h0 h1])
  refine ⟨fun k h0 h1 => by rw [hL k h0 h1]; exact a k h0 h1, fun k h0 h1 g => ?_, fun k j h0 h1 g h2 h3 => ?_, fun k j h0 h1 g h2 h3 => ?_, fun v => (e v).trans ⟨fun ⟨t, ht⟩ => ⟨t, fun j h0 h1 => ?_⟩, fun ⟨t, ht⟩ => ⟨t, fun j h0 h1 => ?_⟩⟩⟩
  · rw [hL k h0 h1] at g; rw [hR k k h0 h1 h0 h1]; exact b k h0 h1 g
  · rw [hL k h0 h1] at g; rw [hR k j h0 h1 (by omega) h3]; exact c k j h0 h1 g h2 h3
  · rw [hL k h0 h1] at g; rw [hR k j h0 h1 h2 h3]; exact d k j h0 h1 g h2 h3
  · rw [hrsp t j h0 h1]; exact ht j h0 h1
  · rw [← hrsp t j h0 h1]; exact ht j h0 h1
/-- nothing yet -/
def vZ (p W : Int) : (Int → Int) → Prop := fun v => ∀ j, 0 ≤ j → j < W → mE p (v j) 0
theorem mD_z {p W : Int} {R : Int → Int → Int} {L : Int → Int} (hL : ∀ k, 0 ≤ k → k < W → L k = 0) : mD p W (vZ p W) R L := by
  have hrsp : ∀ t j, rsp L R t W j = 0 := fun t j => sm_zero _ (fun x g0 g1 => if_neg (by rw [hL x g0 (by omega)]; decide))
  refine ⟨fun k h0 h1 => Or.inl (hL k h0 h1), fun k h0 h1 g => ?_, fun k j h0 h1 g h2 h3 => ?_, fun k j h0 h1 g h2 h3 => ?_, fun v => ⟨fun h => ⟨fun _ => 0, fun j h0 h1 => by rw [hrsp]; exact h j h0 h1⟩, fun ⟨t, h⟩ j h0 h1 => by have := h j h0 h1; rwa [hrsp] at this⟩⟩ <;> (rw [hL k h0 h1] at g; omega)
theorem vZ_le {p W : Int} {U : (Int → Int) → Prop} (hU : vSub p W U) {v : Int → Int} (h : vZ p W v) : U v := vS_ext hU hU.1 (fun j h0 h1 => mE_symm (h j h0 h1))
theorem mD_0 {n D p : Int} {LW : Int → (Int → Int) → Prop} {R : Int → Int → Int} {L : Int → Int} (hL : L 0 = 0) : mD p 1 (nV n D p LW 0) R L := by
  have h := mD_z (p := p) (W := 1) (R := R) (L := L) (fun k h0 h1 => by rw [show k = 0 by omega]; exact hL)
  have e : vZ p 1 = nV n D p LW 0 := funext fun v => propext ⟨fun g => mE_0.mp (g 0 (by omega) (by omega)), fun g j h0 h1 => by rw [show j = 0 by omega]; exact mE_0.mpr g⟩
  rwa [e] at h
def mNd (rs rw_ ld sz : Int → Int) (q n D p : Int) (LW : Int → (Int → Int) → Prop) (d : Int) : Prop := rs (9 * q + d) = sQ n D d ∧ mD p (sW n D d) (nV n D p LW d.toNat) (fun k x => rw_ (70000 * q + sQ n D d + k * sW n D d + x)) (fun x => ld (400 * q + sS n D d + x)) ∧ sz (9 * q + d) = sm (fun w => if ld (400 * q + sS n D d + w) = 0 then 1 else 0) (sW n D d).toNat
theorem mNd_up {rs rw_ ld sz rs' rw' ld' sz' : Int → Int} {q n D p e d : Int} {LW : Int → (Int → Int) → Prop} (hO : sOk n D p) (h0 : 0 ≤ e) (h1 : e < d) (h : mNd rs rw_ ld sz q n D p LW e) (hr : ∀ x, x < 70000 * q + sQ n D d → 70000 * q ≤ x → rw' x = rw_ x) (hl : ∀ x, x < 400 * q + sS n D d → 400 * q ≤ x → ld' x = ld x) (hs : ∀ x, 9 * q ≤ x → x < 9 * q + d → sz' x = sz x) (hq : ∀ x, 9 * q ≤ x → x < 9 * q + d → rs' x = rs x) : mNd rs' rw' ld' sz' q n D p LW e := by
  obtain ⟨a, b, c⟩ := h
  obtain ⟨i1, i2⟩ := sQ_up hO h0 h1
  have hQ0 := sQ_mono (n := n) (D := D) hO.1.1 (Int.le_refl 0) h0
  rw [sQ_0] at hQ0
  have hS0 := sS_nn (D := D) (k := e) hO.1.1
  refine ⟨by rw [hq _ (by omega) (by omega)]; exact a, mD_ext b (fun k j a1 a2 a3 a4 => hr _ ?_ ?_) (fun w a1 a2 => hl _ ?_ (by omega)), ?_⟩
  · have := i1 k j a1 a2 a3 a4
    omega
  · have := Int.mul_nonneg a1 (sW_nn (D := D) (k := e) hO.1.1)
    omega
  · have := i2 w a1 a2
    omega
  · rw [hs _ (by omega) (by omega), c]
    refine sm_ext _ (fun w a1 a2 => ?_)
    have := i2 w a1 (by omega)
    show (if ld (400 * q + sS n D e + w) = 0 then 1 else 0) = (if ld' (400 * q + sS n D e + w) = 0 then 1 else 0)
    rw [hl _ (by omega) (by omega)]
