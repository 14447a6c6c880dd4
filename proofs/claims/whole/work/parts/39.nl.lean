/-! STEPS of the class's forms, cell by cell -/
theorem seg_ext {f g h : Int → Int} {o m : Int} (e : ∀ x, 0 ≤ x → x < m → g x = h x) : seg f o m g = seg f o m h := by
  funext x
  unfold seg
  split
  · exact e _ (by omega) (by omega)
  · rfl
theorem up_seg {f g : Int → Int} {o m k v : Int} (hk : 0 ≤ k ∧ k < m) : up (seg f o m g) (o + k) v = seg f o m (up g k v) := by
  funext x
  show (if x = o + k then v else if o ≤ x ∧ x < o + m then g (x - o) else f x) = (if o ≤ x ∧ x < o + m then (if x - o = k then v else g (x - o)) else f x)
  by_cases e : x = o + k
  · rw [if_pos e, if_pos (by omega), if_pos (by omega)]
  · rw [if_neg e, if_neg (show ¬ x - o = k by omega)]
theorem up_seg0 {f g : Int → Int} {m k v : Int} (hk : 0 ≤ k ∧ k < m) : up (seg f 0 m g) k v = seg f 0 m (up g k v) := by
  have := up_seg (f := f) (g := g) (o := 0) (v := v) hk
  rwa [Int.zero_add] at this
theorem sW_p {n D p d e w : Int} (h : sOk n D p) (h0 : 0 ≤ e) (h1 : e ≤ d) (hw : 0 ≤ w ∧ w < sW n D d) : 0 < sW n D e := by
  have hdD : d ≤ D := by
    rcases Int.lt_or_le D d with h2 | h2
    · rw [sW_big h2] at hw; omega
    · exact h2
  have hn := h.1.1
  rcases Int.lt_or_le 0 n with g | g
  · rw [sW_in h0 (by omega)]
    exact Int.pow_pos g
  · have : n = 0 := by omega
    subst this
    by_cases hd : d = 0
    · have : e = 0 := by omega
      rw [this, sW_0 (by omega)]; decide
    · exfalso
      rw [sW_in (by omega) hdD, show d.toNat = (d.toNat - 1) + 1 by omega, Int.pow_succ, Int.mul_zero] at hw
      omega
theorem sq_ne {W u w k : Int} (hk : 0 ≤ k ∧ k < W) (h : ¬ u = w) : u * W + k < w * W ∨ w * W + W ≤ u * W + k := by
  rcases Int.lt_or_le u w with c | c
  · have : (u + 1) * W ≤ w * W := Int.mul_le_mul_of_nonneg_right (by omega) (by omega)
    rw [Int.add_mul, Int.one_mul] at this
    omega
  · have : (w + 1) * W ≤ u * W := Int.mul_le_mul_of_nonneg_right (by omega) (by omega)
    rw [Int.add_mul, Int.one_mul] at this
    omega
def rS (r : Int → Int) (G : Int → Int → Int) (W w : Int) : Int → Int := fun k => if k < W then sm (fun i => r i * G i k) w.toNat else 0
def rS1 (r : Int → Int) (G : Int → Int → Int) (W w j : Int) : Int → Int := fun k => if k < W then sm (fun i => r i * G i k) w.toNat + (if k < j then r w * G w k else 0) else 0
def rS2 (r : Int → Int) (G : Int → Int → Int) (W p j : Int) : Int → Int := fun k => if k < W then (if k < j then sm (fun i => r i * G i k) W.toNat % p else sm (fun i => r i * G i k) W.toNat) else 0
section RS
variable {red X r : Int → Int} {G : Int → Int → Int} {W w k p : Int}
theorem rS_00 : seg red 0 256 (fun _ => 0) = seg red 0 256 (rS r G W 0) := seg_ext (fun x _ _ => by unfold rS; split <;> rfl)
theorem rS_01 (hX : X = seg red 0 256 (rS r G W w)) : X = seg red 0 256 (rS1 r G W w 0) := by
  rw [hX]
  exact seg_ext (fun x h0 _ => by unfold rS rS1; rw [if_neg (show ¬ x < 0 by omega), Int.add_zero])
theorem rS_st {e : Int} (hX : X = seg red 0 256 (rS1 r G W w k)) (hk : 0 ≤ k ∧ k < W) (hW : W ≤ 256) (he : e = r w * G w k) : up X k (X k + e) = seg red 0 256 (rS1 r G W w (k + 1)) := by
  rw [hX, seg_in0 (by omega), up_seg0 (by omega)]
  refine seg_ext (fun x h0 h1 => ?_)
  unfold up rS1
  by_cases c : x = k
  · rw [if_pos c, c, if_pos hk.2, if_pos hk.2, if_neg (by omega), if_pos (by omega), he]; omega
  · rw [if_neg c]
    by_cases c2 : x < W
    · rw [if_pos c2, if_pos c2]
      by_cases c3 : x < k
      · rw [if_pos c3, if_pos (by omega)]
      · rw [if_neg c3, if_neg (by omega)]
    · rw [if_neg c2, if_neg c2]
theorem rS_e1 (hX : X = seg red 0 256 (rS1 r G W w k)) (hw : 0 ≤ w) (hz : ∀ x, k ≤ x → x < W → r w * G w x = 0) : X = seg red 0 256 (rS r G W (w + 1)) := by
  rw [hX]
  refine seg_ext (fun x h0 h1 => ?_)
  unfold rS1 rS
  by_cases c : x < W
  · rw [if_pos c, if_pos c, sm_s _ hw]
    by_cases c2 : x < k
    · rw [if_pos c2]
    · rw [if_neg c2, hz x (by omega) c]
  · rw [if_neg c, if_neg c]
theorem rS_02 (hX : X = seg red 0 256 (rS r G W W)) : X = seg red 0 256 (rS2 r G W p 0) := by
  rw [hX]
  exact seg_ext (fun x h0 _ => by unfold rS rS2; rw [if_neg (show ¬ x < 0 by omega)])
theorem rS_st2 (hX : X = seg red 0 256 (rS2 r G W p k)) (hk : 0 ≤ k ∧ k < W) (hW : W ≤ 256) : up X k (X k % p) = seg red 0 256 (rS2 r G W p (k + 1)) := by
  rw [hX, seg_in0 (by omega), up_seg0 (by omega)]
  refine seg_ext (fun x h0 h1 => ?_)
  unfold up rS2
  by_cases c : x = k
  · rw [if_pos c, c, if_pos hk.2, if_pos hk.2, if_neg (by omega), if_pos (by omega)]
  · rw [if_neg c]
    by_cases c2 : x < W
    · rw [if_pos c2, if_pos c2]
      by_cases c3 : x < k
      · rw [if_pos c3, if_pos (by omega)]
      · rw [if_neg c3, if_neg (by omega)]
    · rw [if_neg c2, if_neg c2]
theorem rS_fin (hX : X = seg red 0 256 (rS2 r G W p k)) (hk : W ≤ k) (hW : W ≤ 256) : ∀ x, 0 ≤ x → x < W → X x = nfs G W r x % p := fun x h0 h1 => by
  rw [hX, seg_in0 (by omega)]
  unfold rS2 nfs
  rw [if_pos h1, if_pos (by omega)]
theorem rS_b (hX : X = seg red 0 256 (rS2 r G W p k)) (hx : 0 ≤ w ∧ w < W) (hW : W ≤ 256) (hp : 2 ≤ p ∧ p ≤ 97) (hr : R97 r) (hG : ∀ i, 0 ≤ i → i < W → 0 ≤ G i w ∧ G i w < 97) : i32 (X w) := by
  rw [hX, seg_in0 (by omega)]
  unfold rS2
  rw [if_pos hx.2]
  have h1 := sm_b (f := fun i => r i * G i w) (B := 9216) W.toNat (fun j h0 h1 => m97 (hr j) (hG j h0 (by omega)))
  have h2 : ((W.toNat : Nat) : Int) * 9216 ≤ 256 * 9216 := Int.mul_le_mul_of_nonneg_right (by omega) (by omega)
  have h3 := Int.emod_nonneg (sm (fun i => r i * G i w) W.toNat) (show p ≠ 0 by omega)
  have h4 := Int.emod_lt_of_pos (sm (fun i => r i * G i w) W.toNat) (show 0 < p by omega)
  split <;> constructor <;> omega
end RS
/-- one form, with what stands for its greatest word put in -/
theorem rp_step {f G G' Y : Int → Int} {Q W w l p at_ : Int} (hw : 0 ≤ w ∧ w < W) (hl : 0 ≤ l ∧ l < W) (hat : at_ = Q + w * W) (hG' : G' = up (seg G at_ l (fun k => (G (at_ + k) + G (at_ + l) * Y k) % p)) (at_ + l) 0)
    (hG : ∀ u k, 0 ≤ u → u < W → 0 ≤ k → k < W → G (Q + u * W + k) = if u < w then (if k < l then (f (Q + u * W + k) + f (Q + u * W + l) * Y k) % p else if k = l then 0 else f (Q + u * W + k)) else f (Q + u * W + k)) :
    ∀ u k, 0 ≤ u → u < W → 0 ≤ k → k < W → G' (Q + u * W + k) = if u < w + 1 then (if k < l then (f (Q + u * W + k) + f (Q + u * W + l) * Y k) % p else if k = l then 0 else f (Q + u * W + k)) else f (Q + u * W + k) := by
  intro u k h0 h1 h2 h3
  by_cases e : u = w
  · subst e
    rw [if_pos (by omega), hG', hat]
    unfold up
    by_cases c : k = l
    · rw [if_pos (by omega), if_neg (by omega), if_pos c]
    · rw [if_neg (by omega)]
      unfold seg
      by_cases c2 : k < l
      · rw [if_pos (by omega), if_pos c2]
        show (G (Q + u * W + (Q + u * W + k - (Q + u * W))) + G (Q + u * W + l) * Y (Q + u * W + k - (Q + u * W))) % p = _
        rw [show Q + u * W + k - (Q + u * W) = k by omega, hG u k h0 h1 h2 h3, hG u l h0 h1 hl.1 hl.2, if_neg (show ¬ u < u by omega), if_neg (show ¬ u < u by omega)]
      · rw [if_neg (by omega), if_neg c2, if_neg c, hG u k h0 h1 h2 h3, if_neg (by omega)]
  · have hne := sq_ne (W := W) ⟨h2, h3⟩ e
    rw [hG', hat, up_ne (by omega), seg_out (by omega), hG u k h0 h1 h2 h3]
    by_cases c : u < w
    · rw [if_pos c, if_pos (show u < w + 1 by omega)]
    · rw [if_neg c, if_neg (show ¬ u < w + 1 by omega)]
theorem rp_out {G G' Y : Int → Int} {Q W w l p at_ x : Int} (hw : 0 ≤ w ∧ w < W) (hl : 0 ≤ l ∧ l < W) (hat : at_ = Q + w * W) (hG' : G' = up (seg G at_ l (fun k => (G (at_ + k) + G (at_ + l) * Y k) % p)) (at_ + l) 0) (hx : x < Q ∨ Q + W * W ≤ x) : G' x = G x := by
  have h1 := sq_in hw (show 0 ≤ 0 ∧ 0 < W by omega)
  have h2 := sq_in hw (show 0 ≤ W - 1 ∧ W - 1 < W by omega)
  rw [hG', up_ne (by omega), seg_out (by omega)]
theorem rp_97 {G G' Y : Int → Int} {l p at_ : Int} (hp : sPr p) (hG' : G' = up (seg G at_ l (fun k => (G (at_ + k) + G (at_ + l) * Y k) % p)) (at_ + l) 0) (h : R97 G) : R97 G' := by
  rw [hG']
  exact R97_up (R97_seg h (fun k _ _ => by have := @sR_lt p (G (at_ + k) + G (at_ + l) * Y k) hp; have := hp.2.1; omega)) (by decide)
theorem rp_same {G Y : Int → Int} {l p at_ : Int} (h : ∀ k, 0 ≤ k → k < l → 0 ≤ G (at_ + k) ∧ G (at_ + k) < p) (h0 : G (at_ + l) = 0) : G = up (seg G at_ l (fun k => (G (at_ + k) + G (at_ + l) * Y k) % p)) (at_ + l) 0 := by
  funext x
  unfold up seg
  by_cases h9 : x = at_ + l
  · rw [if_pos h9, h9]; exact h0
  · rw [if_neg h9]
    split
    · have := h (x - at_) (by omega) (by omega)
      rw [show at_ + (x - at_) = x by omega] at this
      show G x = (G (at_ + (x - at_)) + G (at_ + l) * Y (x - at_)) % p
      rw [h0, Int.zero_mul, Int.add_zero, show at_ + (x - at_) = x by omega, Int.emod_eq_of_lt this.1 this.2]
    · rfl
theorem ins_no {p W : Int} {V : (Int → Int) → Prop} {F : Int → Int → Int} {L r X : Int → Int} (h : cD p W V F L) (hX : ∀ x, 0 ≤ x → x < W → X x = nfs F W r x % p) (hz : ∀ x, 0 ≤ x → x < W → X x = 0) : cD p W (vAdd V r) F L :=
  cD_same h ((h.2.2.2.2.2 r).mpr (fun k h0 h1 => Int.dvd_of_emod_eq_zero ((hX k h0 h1).symm.trans (hz k h0 h1))))
theorem ins_G0 {p W Q l : Int} {V : (Int → Int) → Prop} {f L Y : Int → Int} (h : cD p W V (fun w k => f (Q + w * W + k)) L) (hl : 0 ≤ l ∧ l < W) : ∀ u k, 0 ≤ u → u < W → 0 ≤ k → k < W → f (Q + u * W + k) = if u < l then (if k < l then (f (Q + u * W + k) + f (Q + u * W + l) * Y k) % p else if k = l then 0 else f (Q + u * W + k)) else f (Q + u * W + k) := by
  intro u k h0 h1 h2 h3
  by_cases c : u < l
  · have e : f (Q + u * W + l) = 0 := h.2.1 u l h0 c hl.2
    have hr : 0 ≤ f (Q + u * W + k) ∧ f (Q + u * W + k) < p := h.1 u k h0 h1 h2 h3
    rw [if_pos c]
    by_cases c2 : k < l
    · rw [if_pos c2, e, Int.zero_mul, Int.add_zero, Int.emod_eq_of_lt hr.1 hr.2]
    · rw [if_neg c2]
      by_cases c3 : k = l
      · rw [if_pos c3, c3, e]
      · rw [if_neg c3]
  · rw [if_neg c]
theorem ins_yes {p W Q S l s w : Int} {V : (Int → Int) → Prop} {f ld X Y Z G r : Int → Int} (hp : sPr p) (h : cD p W V (fun w k => f (Q + w * W + k)) (fun w => ld (S + w))) (hX : ∀ x, 0 ≤ x → x < W → X x = nfs (fun w k => f (Q + w * W + k)) W r x % p) (hl : 0 ≤ l ∧ l < W) (hxl : ¬ X l = 0) (hz : ∀ x, l < x → x < W → X x = 0) (hs : mE p (X l * s) (-1)) (hY : Y = seg X 0 l (fun j => (s * X j) % p)) (hZ : Z = up ld (S + l) 1) (hw : W ≤ w)
    (hG : ∀ u k, 0 ≤ u → u < W → 0 ≤ k → k < W → G (Q + u * W + k) = if u < w then (if k < l then (f (Q + u * W + k) + f (Q + u * W + l) * Y k) % p else if k = l then 0 else f (Q + u * W + k)) else f (Q + u * W + k)) : cD p W (vAdd V r) (fun w k => G (Q + w * W + k)) (fun w => Z (S + w)) := by
  refine cD_ins h hp hX hl.1 hl.2 hxl hz (N := Y) (fun k h0 h1 => ?_) _ _ (fun u k h0 h1 h2 h3 => ?_) (fun k h0 h1 => ?_)
  · rw [hY, seg_in0 (by omega)]
    refine mE_trans (mE_mul (mE_rfl p _) (mE_emod p _)) ?_
    have := mE_mul hs (mE_rfl p (X k))
    refine mE_trans (mE_of ?_) (mE_trans this (mE_of ?_))
    · rw [Int.mul_assoc]
    · omega
  · show G (Q + u * W + k) = _
    rw [hG u k h0 h1 h2 h3, if_pos (by omega)]
  · show Z (S + k) = _
    rw [hZ]
    unfold up
    by_cases c : k = l
    · rw [if_pos (by omega), if_pos c]
    · rw [if_neg (by omega), if_neg c]
def rwF (n x p : Int) (F : Int → Int) (k : Int) : Int → Int := fun y => if y % n = x ∧ y / n < k then (-(F (y / n))) % p else 0
theorem rw_0 {n x p : Int} {A F : Int → Int} (hn : 0 < n) : seg A 0 256 (fun _ => 0) = seg A 0 256 (rwF n x p F 0) := seg_ext (fun y h0 _ => by
  unfold rwF
  have := Int.ediv_nonneg h0 (show 0 ≤ n by omega)
  rw [if_neg (by omega)])
theorem rw_st {n x p k : Int} {A B F : Int → Int} (hx : 0 ≤ x ∧ x < n) (hB : B = seg A 0 256 (rwF n x p F k)) (hk : 0 ≤ k * n + x ∧ k * n + x < 256) : up B (k * n + x) ((-(F k)) % p) = seg A 0 256 (rwF n x p F (k + 1)) := by
  rw [hB, up_seg0 hk]
  refine seg_ext (fun y h0 h1 => ?_)
  have hq := dv_q (y := k) hx.1 hx.2
  unfold up rwF
  by_cases c : y = k * n + x
  · rw [if_pos c, c, hq.1, hq.2, if_pos ⟨rfl, by omega⟩]
  · rw [if_neg c]
    by_cases c2 : y % n = x ∧ y / n < k
    · rw [if_pos c2, if_pos ⟨c2.1, by omega⟩]
    · rw [if_neg c2, if_neg]
      rintro ⟨g1, g2⟩
      have h3 := Int.emod_add_mul_ediv y n
      have h4 : y / n = k := by omega
      rw [h4, g1, Int.mul_comm] at h3
      omega
theorem rw_fin {n x p w W : Int} {A B F : Int → Int} (hx : 0 ≤ x ∧ x < n) (hB : B = seg A 0 256 (rwF n x p F w)) (hw : 0 ≤ w ∧ w < W) (hW : W * n ≤ 256) (hF : F w = 0) (hF2 : ∀ j, w < j → j < W → F j = 0) : ∀ j, 0 ≤ j → j < W * n → mE p (up B (w * n + x) 1 j) (xr n x (fun j => eW w j - F j) j) := by
  intro j h0 h1
  have hq := dv_q (y := w) hx.1 hx.2
  have h3 := Int.emod_add_mul_ediv j n
  have hd := Int.ediv_lt_of_lt_mul (show 0 < n by omega) h1
  unfold xr
  by_cases c : j = w * n + x
  · rw [c, up_eq, hq.1, hq.2, if_pos rfl]
    exact mE_of (by show 1 = eW w w - F w; unfold eW; rw [if_pos rfl, hF]; rfl)
  · rw [up_ne c, hB, seg_in0 (by omega)]
    unfold rwF
    by_cases c1 : j % n = x
    · have hne : ¬ j / n = w := fun e => c (by rw [e, c1, Int.mul_comm] at h3; omega)
      rw [if_pos c1]
      by_cases c2 : j / n < w
      · rw [if_pos ⟨c1, c2⟩]
        refine mE_trans (mE_emod p _) (mE_of ?_)
        show -F (j / n) = eW w (j / n) - F (j / n)
        unfold eW; rw [if_neg hne]; omega
      · rw [if_neg (fun q => c2 q.2)]
        refine mE_of ?_
        show 0 = eW w (j / n) - F (j / n)
        rw [hF2 _ (by omega) hd]
        unfold eW; rw [if_neg hne]; rfl
    · rw [if_neg (fun q => c1 q.1), if_neg c1]
      exact mE_rfl p 0
theorem rw_97 {n x p k : Int} {A F : Int → Int} (hp : sPr p) (hA : R97 A) : R97 (seg A 0 256 (rwF n x p F k)) := R97_seg hA (fun y _ _ => by
  unfold rwF
  have := @sR_lt p (-(F (y / n))) hp
  have := hp.2.1
  split <;> omega)
theorem sQ_lt {n D d w k : Int} (hd : 0 ≤ d) (hw : 0 ≤ w ∧ w < sW n D d) (hk : 0 ≤ k ∧ k < sW n D d) : sQ n D d + w * sW n D d + k < sQ n D (d + 1) := by
  have := sq_in hw hk
  rw [sQ_succ hd]
  omega
theorem ins_s {p x i : Int} (hp : sPr p) (h : i * x % p = 1) : mE p (x * ((-i) % p)) (-1) := by
  have h1 : mE p (i * x) 1 := mE_ofmod (by rw [h]; exact (Int.emod_eq_of_lt (by decide) (by have := hp.1; omega)).symm)
  refine mE_trans (mE_mul (mE_rfl p x) (mE_emod p (-i))) ?_
  have := mE_neg h1
  refine mE_trans (mE_of ?_) this
  grind
theorem tk_step {f G H : Int → Int} {Q Q1 W W1 n w : Int} (hn : 0 ≤ n) (hW1 : 0 ≤ W1) (hW : W = W1 * n) (hw : 0 ≤ w ∧ w < W) (hH : H = seg G (Q + w * W + w - w % W1) (w % W1 + 1) (fun j => f (Q1 + w % W1 * W1 + j))) (htri : ∀ a b, 0 ≤ a → a < b → b < W1 → f (Q1 + a * W1 + b) = 0)
    (hG : ∀ u k, 0 ≤ u → u < W → 0 ≤ k → k < W → G (Q + u * W + k) = if u < w ∧ k / W1 = u / W1 then f (Q1 + u % W1 * W1 + k % W1) else 0) :
    ∀ u k, 0 ≤ u → u < W → 0 ≤ k → k < W → H (Q + u * W + k) = if u < w + 1 ∧ k / W1 = u / W1 then f (Q1 + u % W1 * W1 + k % W1) else 0 := by
  intro u k h0 h1 h2 h3
  obtain ⟨a1, a2, a3, a4, a5, a6, a7⟩ := dv (w := w) hn hw.1 (by omega) hW1
  obtain ⟨b1, b2, b3, b4, b5, b6, b7⟩ := dv (w := k) hn h2 (by omega) hW1
  have hg := hG u k h0 h1 h2 h3
  have hi := Int.mul_nonneg a3 hW1
  by_cases e : u = w
  · subst e
    rw [if_neg (by omega)] at hg
    by_cases c : k / W1 = u / W1
    · rw [if_pos ⟨by omega, c⟩]
      rw [c] at b7
      by_cases c2 : k % W1 ≤ u % W1
      · rw [hH, show Q + u * W + k = (Q + u * W + u - u % W1) + k % W1 by omega, seg_in (by omega)]
      · rw [hH, seg_out (by omega), hg, htri _ _ a5 (by omega) b6]
    · rw [if_neg (fun q => c q.2)]
      have := sq_ne (W := W1) (u := k / W1) (w := u / W1) ⟨b5, b6⟩ c
      rw [hH, seg_out (by omega), hg]
  · have hne := sq_ne (W := W) ⟨h2, h3⟩ e
    rw [hH, seg_out (by omega), hg]
    by_cases c : u < w ∧ k / W1 = u / W1
    · rw [if_pos c, if_pos ⟨by omega, c.2⟩]
    · rw [if_neg c, if_neg (fun q => c ⟨by omega, q.2⟩)]
theorem cD_0 {n D p : Int} {LW : Int → (Int → Int) → Prop} {F : Int → Int → Int} {L : Int → Int} (hp : 2 ≤ p) (hF : F 0 0 = 1) (hL : L 0 = 0) : cD p 1 (nV n D p LW 0) F L := by
  have z : ∀ x : Int, 0 ≤ x → x < 1 → x = 0 := fun x _ _ => by omega
  refine ⟨fun w k a b c d => ?_, fun w k a b c => by omega, fun w k a b c d e => ?_, fun w a b _ k c d => ?_, fun w a b => ?_, fun v => ?_⟩
  · rw [z w a b, z k c d, hF]; omega
  · rw [z k c d, hL] at e; omega
  · rw [z w a b, z k c d, hF]; rfl
  · rw [z w a b]; exact Or.inl hL
  · have e : ∀ k, 0 ≤ k → k < 1 → sm (fun w => v w * F w k) (1 : Int).toNat = v 0 := fun k a b => by
      rw [z k a b]
      show 0 + v 0 * F 0 0 = v 0
      rw [hF]; omega
    constructor
    · intro hv k a b
      rw [e k a b]; exact hv
    · intro h
      have := h 0 (by omega) (by omega)
      rw [e 0 (by omega) (by omega)] at this
      exact this
section NVI
variable {n D p q d : Int} {LW : Int → (Int → Int) → Prop}
theorem nV_subI (hp : 0 < p) (hD : 0 ≤ D) (hd : 0 ≤ d) : vSub p (sW n D d) (nV n D p LW d.toNat) := by
  have := nV_sub (n := n) (LW := LW) hp d.toNat hD
  rwa [show ((d.toNat : Nat) : Int) = d by omega] at this
theorem nV_xrI (hd : 1 ≤ d) {a : Int → Int} (ha : nV n D p LW (d - 1).toNat a) {x : Int} (h0 : 0 ≤ x) (h1 : x < n) : nV n D p LW d.toNat (xr n x a) := by
  rw [show d.toNat = (d - 1).toNat + 1 by omega]
  exact nV_xr ha h0 h1
theorem nV_xlI (hd : 1 ≤ d) {a : Int → Int} (ha : nV n D p LW (d - 1).toNat a) {x : Int} (h0 : 0 ≤ x) (h1 : x < n) : nV n D p LW d.toNat (xl (sW n D (d - 1)) x a) := by
  rw [show d.toNat = (d - 1).toNat + 1 by omega]
  have := nV_xl ha h0 h1
  rwa [show (((d - 1).toNat : Nat) : Int) = d - 1 by omega] at this
theorem nV_lawI (hd : 1 ≤ d) {r : Int → Int} (hr : LW d r) : nV n D p LW d.toNat r := by
  rw [show d.toNat = (d - 1).toNat + 1 by omega]
  refine nV_law ?_
  rw [show (((d - 1).toNat : Nat) : Int) + 1 = d by omega]
  exact hr
theorem nV_blkI (hO : sOk n D q) (hp : 0 < p) (hd : 1 ≤ d ∧ d ≤ D) {v : Int → Int} (hv : vBlk n (sW n D (d - 1)) (nV n D p LW (d - 1).toNat) v) : nV n D p LW d.toNat v := by
  rw [show d.toNat = (d - 1).toNat + 1 by omega]
  refine nV_blk hO hp (by omega) ?_
  rw [show (((d - 1).toNat : Nat) : Int) = d - 1 by omega]
  exact hv
theorem nV_classI (hO : sOk n D q) (hp : sPr p) (hd : 1 ≤ d ∧ d ≤ D) {F F0 : Int → Int → Int} {L L0 : Int → Int} (h1 : cD p (sW n D (d - 1)) (nV n D p LW (d - 1).toNat) F L) (h0 : 2 ≤ d → cD p (sW n D (d - 1 - 1)) (nV n D p LW (d - 1 - 1).toNat) F0 L0) {V2 : (Int → Int) → Prop} (hV2 : vSub p (sW n D d) V2)
    (hB : ∀ v, vBlk n (sW n D (d - 1)) (nV n D p LW (d - 1).toNat) v → V2 v) (hC : ∀ w, 0 ≤ w → w < sW n D (d - 1) → L w = 1 → 2 ≤ d → L0 (w % sW n D (d - 1 - 1)) = 0 → ∀ x, 0 ≤ x → x < n → V2 (xr n x (fun j => eW w j - F w j))) (hD : ∀ r, LW d r → V2 r) (hA : ∀ v, V2 v → nV n D p LW d.toNat v) : V2 = nV n D p LW d.toNat := by
  obtain ⟨m, rfl⟩ : ∃ m : Nat, d = (m : Int) + 1 := ⟨(d - 1).toNat, by omega⟩
  rw [show ((m : Int) + 1).toNat = m + 1 by omega] at hA ⊢
  rw [show (m : Int) + 1 - 1 = m by omega] at h1 hB hC h0
  rw [show ((m : Int)).toNat = m by omega] at h1 hB
  refine nV_class (F0 := F0) (L0 := L0) hO hp hd.2 h1 (fun h => ?_) ?_ hB (fun w g0 g1 g2 g3 g4 => hC w g0 g1 g2 (by omega) g4) hD hA
  · have := h0 (by omega)
    rwa [show ((m : Int) - 1).toNat = m - 1 by omega] at this
  · rwa [← sW_succ (by omega) (by omega)]
end NVI
def cNd (fm fs ld sz : Int → Int) (n D p : Int) (LW : Int → (Int → Int) → Prop) (d : Int) : Prop := fs d = sQ n D d ∧ fs (d + 1) = sQ n D (d + 1) ∧ cD p (sW n D d) (nV n D p LW d.toNat) (fun w k => fm (sQ n D d + w * sW n D d + k)) (fun w => ld (sS n D d + w)) ∧ sz d = sm (fun w => if ld (sS n D d + w) = 0 then 1 else 0) (sW n D d).toNat
def cNg (fm fs ld sz rw_ : Int → Int) (n D p : Int) (LW : Int → (Int → Int) → Prop) (R : Int) : Prop := (-1 ≤ R ∧ R ≤ D) ∧ R97 fm ∧ R01 ld ∧ R97 rw_ ∧ fs 0 = 0 ∧ ∀ d, 0 ≤ d → d ≤ R → cNd fm fs ld sz n D p LW d
def lwOk (lr ln : Int → Int) (m n D p : Int) (LW : Int → (Int → Int) → Prop) : Prop := (∀ i, 0 ≤ i → i < m → LW (ln i) (fun j => lr (i * 256 + j))) ∧ ∀ d r, LW d r → ∃ i, 0 ≤ i ∧ i < m ∧ ln i = d ∧ ∀ j, 0 ≤ j → j < sW n D d → mE p (r j) (lr (i * 256 + j))
