/-! products of rows of words, and the class's readers told by the leading words L -/
def bAt (n D u v : Int) : Int := sS n D (sL n D u + sL n D v) + (u - sS n D (sL n D u)) * sW n D (sL n D v) + v - sS n D (sL n D v)
def pTm (n D : Int) (a b : Int → Int) (u v x : Int) : Int := if sL n D u + sL n D v ≤ D ∧ bAt n D u v = x then a u * b v else 0
def prd (n D : Int) (a b : Int → Int) (x : Int) : Int := sm (fun u => sm (fun v => pTm n D a b u v x) (sS n D (D + 1)).toNat) (sS n D (D + 1)).toNat
def apI (n D p f : Int) (to a b X : Int → Int) (u v : Int) : Prop := (∀ x, 0 ≤ x → x < sS n D (D + 1) → (0 ≤ X x ∧ X x < p) ∧ mE p (X x) (to x + f * (sm (fun u' => sm (fun v' => pTm n D a b u' v' x) (sS n D (D + 1)).toNat) u.toNat + sm (fun v' => pTm n D a b u v' x) v.toNat))) ∧ ∀ x, ¬ (0 ≤ x ∧ x < sS n D (D + 1)) → X x = to x
theorem sL_w {n D p x : Int} (hO : sOk n D p) (h0 : 0 ≤ x) (hx : x < sS n D (D + 1)) : 0 ≤ sL n D x ∧ sL n D x ≤ D ∧ 0 ≤ x - sS n D (sL n D x) ∧ x - sS n D (sL n D x) < sW n D (sL n D x) := by
  obtain ⟨d, w, a1, a2, a3, a4, a5⟩ := sL_ex hO h0 hx
  have e : sL n D x = d := by rw [a5]; exact sL_word hO a1 ⟨a3, a4⟩
  rw [e]
  omega
theorem sL_lt {n D p x k : Int} (hO : sOk n D p) (h0 : 0 ≤ x) (hx : x < sS n D (D + 1)) (hk : 0 ≤ k) : x < sS n D (k + 1) ↔ sL n D x ≤ k := by
  obtain ⟨a, b, c, d⟩ := sL_w hO h0 hx
  have hs := sS_succ (n := n) (D := D) a
  constructor
  · intro h
    rcases Int.lt_or_le k (sL n D x) with g | g
    · have := sS_mono (D := D) hO.1.1 (show k + 1 ≤ sL n D x by omega)
      omega
    · exact g
  · intro h
    have := sS_mono (D := D) hO.1.1 (show sL n D x + 1 ≤ k + 1 by omega)
    omega
theorem bAt_in {n D p u v : Int} (hO : sOk n D p) (hu : 0 ≤ u ∧ u < sS n D (D + 1)) (hv : 0 ≤ v ∧ v < sS n D (D + 1)) (h : sL n D u + sL n D v ≤ D) : 0 ≤ bAt n D u v ∧ bAt n D u v < sS n D (D + 1) ∧ bAt n D u v < 364 := by
  obtain ⟨a1, a2, a3, a4⟩ := sL_w hO hu.1 hu.2
  obtain ⟨b1, b2, b3, b4⟩ := sL_w hO hv.1 hv.2
  have h1 := dv_in (W := sW n D (sL n D v)) (n := sW n D (sL n D u)) (t := v - sS n D (sL n D v)) (y := u - sS n D (sL n D u)) b3 b4 a3 a4
  have h2 := sW_add (n := n) (D := D) a1 b1 h
  rw [Int.mul_comm (sW n D (sL n D v)) (sW n D (sL n D u)), ← h2] at h1
  have h3 := sS_word hO (show 0 ≤ sL n D u + sL n D v by omega) h1
  unfold bAt
  omega
theorem ap_0 {n D p f : Int} {to a b : Int → Int} (ht : ∀ x, 0 ≤ x → x < sS n D (D + 1) → 0 ≤ to x ∧ to x < p) : apI n D p f to a b to 0 0 := ⟨fun x h0 h1 => ⟨ht x h0 h1, mE_of (by show to x = to x + f * (0 + 0); omega)⟩, fun _ _ => rfl⟩
theorem ap_skip {n D p f u v : Int} {to a b X : Int → Int} (h : apI n D p f to a b X u v) (hv : 0 ≤ v) (hz : ∀ x, mE p (f * pTm n D a b u v x) 0) : apI n D p f to a b X u (v + 1) := by
  refine ⟨fun x h0 h1 => ⟨(h.1 x h0 h1).1, mE_trans (h.1 x h0 h1).2 ?_⟩, h.2⟩
  rw [sm_s _ hv]
  have := mE_add (mE_rfl p (to x + f * (sm (fun u' => sm (fun v' => pTm n D a b u' v' x) (sS n D (D + 1)).toNat) u.toNat + sm (fun v' => pTm n D a b u v' x) v.toNat))) (mE_symm (hz x))
  refine mE_trans (mE_of ?_) (mE_trans this (mE_of ?_))
  · omega
  · grind
theorem ap_hit {n D p q f u v c : Int} {to a b X : Int → Int} (hO : sOk n D q) (hp : 0 < p) (h : apI n D p f to a b X u v) (hu : 0 ≤ u ∧ u < sS n D (D + 1)) (hv : 0 ≤ v ∧ v < sS n D (D + 1)) (hL : sL n D u + sL n D v ≤ D) (hc : mE p c (f * a u)) : apI n D p f to a b (up X (bAt n D u v) ((X (bAt n D u v) + c * b v) % p)) u (v + 1) := by
  have hin := bAt_in hO hu hv hL
  refine ⟨fun x h0 h1 => ?_, fun x hx => by rw [up_ne (by omega)]; exact h.2 x hx⟩
  have hx := h.1 x h0 h1
  rw [sm_s _ hv.1]
  by_cases e : x = bAt n D u v
  · rw [e, up_eq]
    refine ⟨⟨Int.emod_nonneg _ (by omega), Int.emod_lt_of_pos _ hp⟩, ?_⟩
    rw [e] at hx
    refine mE_trans (mE_emod p _) ?_
    have h2 := mE_add hx.2 (mE_mul hc (mE_rfl p (b v)))
    refine mE_trans h2 (mE_of ?_)
    have e2 : pTm n D a b u v (bAt n D u v) = a u * b v := if_pos ⟨hL, rfl⟩
    rw [e2]
    grind
  · rw [up_ne e]
    refine ⟨hx.1, mE_trans hx.2 (mE_of ?_)⟩
    have e2 : pTm n D a b u v x = 0 := if_neg (fun g => e g.2.symm)
    rw [e2, Int.add_zero]
theorem ap_row {n D p f u v : Int} {to a b X : Int → Int} (h : apI n D p f to a b X u v) (hu : 0 ≤ u) (hv : 0 ≤ v ∧ v ≤ sS n D (D + 1)) (hz : ∀ w, v ≤ w → w < sS n D (D + 1) → ∀ x, mE p (f * pTm n D a b u w x) 0) : apI n D p f to a b X (u + 1) 0 := by
  have h1 : ∀ t : Nat, v + t ≤ sS n D (D + 1) → apI n D p f to a b X u (v + t) := by
    intro t
    induction t with
    | zero => intro _; rw [show v + ((0 : Nat) : Int) = v by omega]; exact h
    | succ t ih =>
      intro ht
      rw [show v + ((t + 1 : Nat) : Int) = (v + t) + 1 by omega]
      exact ap_skip (ih (by omega)) (by omega) (hz _ (by omega) (by omega))
  have h2 := h1 (sS n D (D + 1) - v).toNat (by omega)
  rw [show v + (((sS n D (D + 1) - v).toNat : Nat) : Int) = sS n D (D + 1) by omega] at h2
  refine ⟨fun x h3 h4 => ⟨(h2.1 x h3 h4).1, mE_trans (h2.1 x h3 h4).2 (mE_of ?_)⟩, h2.2⟩
  rw [sm_s _ hu]
  show _ = to x + f * (_ + 0)
  rw [Int.add_zero]
theorem ap_z1 {n D p f u v x : Int} {a b : Int → Int} (h : b v = 0) : mE p (f * pTm n D a b u v x) 0 := mE_of (by unfold pTm; rw [h, Int.mul_zero]; split <;> omega)
theorem ap_z2 {n D p f u v x : Int} {a b : Int → Int} (h : (f * a u) % p = 0) : mE p (f * pTm n D a b u v x) 0 := by
  unfold pTm
  split
  · rw [← Int.mul_assoc]
    exact mE_0.mpr (Int.dvd_mul_of_dvd_left (Int.dvd_of_emod_eq_zero h))
  · rw [Int.mul_zero]; exact mE_rfl p 0
theorem ap_z3 {n D p f u v x : Int} {a b : Int → Int} (h : D < sL n D u + sL n D v) : mE p (f * pTm n D a b u v x) 0 := mE_of (by unfold pTm; rw [if_neg (by omega), Int.mul_zero])
theorem ap_fin {n D p f u : Int} {to a b X : Int → Int} (h : apI n D p f to a b X u 0) (hu : u = sS n D (D + 1)) : (∀ x, 0 ≤ x → x < sS n D (D + 1) → (0 ≤ X x ∧ X x < p) ∧ mE p (X x) (to x + f * prd n D a b x)) ∧ ∀ x, ¬ (0 ≤ x ∧ x < sS n D (D + 1)) → X x = to x := by
  rw [hu] at h
  refine ⟨fun x h0 h1 => ⟨(h.1 x h0 h1).1, mE_trans (h.1 x h0 h1).2 (mE_of ?_)⟩, h.2⟩
  show _ = to x + f * prd n D a b x
  unfold prd
  show to x + f * (_ + 0) = _
  rw [Int.add_zero]
theorem prd_c {n D p q : Int} {a b a' b' : Int → Int} (ha : ∀ x, 0 ≤ x → x < sS n D (D + 1) → mE p (a x) (a' x)) (hb : ∀ x, 0 ≤ x → x < sS n D (D + 1) → mE p (b x) (b' x)) (x : Int) : mE p (prd n D a b x) (prd n D a' b' x) := by
  refine mE_sm _ (fun u u0 u1 => mE_sm _ (fun v v0 v1 => ?_))
  show mE p (pTm n D a b u v x) (pTm n D a' b' u v x)
  unfold pTm
  split
  · exact mE_mul (ha u u0 (by omega)) (hb v v0 (by omega))
  · exact mE_rfl p 0
theorem isB_c {L L' : Int → Int} {n D p d w R : Int} (hO : sOk n D p) (h : ∀ x, 0 ≤ x → x < sS n D (R + 1) → L x = L' x) (hd : d ≤ R) (hw : 0 ≤ w ∧ w < sW n D d) : isB L n D d w ↔ isB L' n D d w := by
  constructor
  · rintro ⟨h1, h2, h3, h4⟩
    obtain ⟨a1, a2, a3, a4, a5⟩ := wd_lt hO h1 hw
    have k1 := sS_word hO (show 0 ≤ d by omega) hw
    have k2 := sS_word hO (show 0 ≤ d - 1 by omega) a3
    have k3 := sS_word hO (show 0 ≤ d - 1 by omega) a4
    have m1 := sS_mono (D := D) hO.1.1 (show d + 1 ≤ R + 1 by omega)
    have m2 := sS_mono (D := D) hO.1.1 (show d - 1 + 1 ≤ R + 1 by omega)
    exact ⟨h1, by rw [← h _ (by omega) (by omega)]; exact h2, by rw [← h _ (by omega) (by omega)]; exact h3, by rw [← h _ (by omega) (by omega)]; exact h4⟩
  · rintro ⟨h1, h2, h3, h4⟩
    obtain ⟨a1, a2, a3, a4, a5⟩ := wd_lt hO h1 hw
    have k1 := sS_word hO (show 0 ≤ d by omega) hw
    have k2 := sS_word hO (show 0 ≤ d - 1 by omega) a3
    have k3 := sS_word hO (show 0 ≤ d - 1 by omega) a4
    have m1 := sS_mono (D := D) hO.1.1 (show d + 1 ≤ R + 1 by omega)
    have m2 := sS_mono (D := D) hO.1.1 (show d - 1 + 1 ≤ R + 1 by omega)
    exact ⟨h1, by rw [h _ (by omega) (by omega)]; exact h2, by rw [h _ (by omega) (by omega)]; exact h3, by rw [h _ (by omega) (by omega)]; exact h4⟩
theorem ct_X3_isLeading_Nought0_L (σ : en_m) (n D p : Int) (L : Int → Int) (R d w : Int) (hI : cS0 σ n D p) (h1 : 0 ≤ d ∧ d ≤ 8) (h2 : i32 w) (g01 : R01 (σ r_Nought0_leading)) (hLL : ∀ x, 0 ≤ x → x < sS n D (R + 1) → σ r_Nought0_leading x = L x) (hR : d ≤ R ∨ D < d) : en_fn z_X3_isLeading [.inr (.inr (r_Nought0, 0)), .inl d, .inl w] σ (.inl (bI ((0 ≤ w ∧ w < sW n D d) ∧ ¬ L (sS n D d + w) = 0))) := by
  have e : bI ((0 ≤ w ∧ w < sW n D d) ∧ ¬ L (sS n D d + w) = 0) = bI ((0 ≤ w ∧ w < sW n D d) ∧ ¬ σ r_Nought0_leading (sS n D d + w) = 0) := by
    refine bI_iff ⟨fun ⟨a, b⟩ => ⟨a, ?_⟩, fun ⟨a, b⟩ => ⟨a, ?_⟩⟩
    all_goals
      have k := sS_word hI.1 h1.1 a
      have m := sS_mono (D := D) hI.1.1.1 (show d + 1 ≤ R + 1 by omega)
      first | (rw [hLL _ (by omega) (by omega)]; exact b) | (rw [← hLL _ (by omega) (by omega)]; exact b)
  rw [e]
  exact ct_X3_isLeading_Nought0 σ n D p d w hI h1 h2 g01
theorem ct_X3_isBasic_Nought0_L (σ : en_m) (n D p : Int) (L : Int → Int) (R d w : Int) (hI : cS0 σ n D p) (h1 : 0 ≤ d ∧ d ≤ 8) (h2 : i32 w) (g01 : R01 (σ r_Nought0_leading)) (hLL : ∀ x, 0 ≤ x → x < sS n D (R + 1) → σ r_Nought0_leading x = L x) (hR : d ≤ R ∨ D < d) : en_fn z_X3_isBasic [.inr (.inr (r_Nought0, 0)), .inl d, .inl w] σ (.inl (bI ((0 ≤ w ∧ w < sW n D d) ∧ isB L n D d w))) := by
  have hD := hI.1.2.1.1
  have hn : sW n D 1 = n := by
    rw [sW_in (by omega) (by omega)]
    exact Int.pow_one n
  have e : bI ((0 ≤ w ∧ w < sW n D d) ∧ isB L n D d w) = bI ((0 ≤ w ∧ w < sW n D d) ∧ 1 ≤ d ∧ ¬ σ r_Nought0_leading (sS n D d + w) = 0 ∧ σ r_Nought0_leading (sS n D (d - 1) + w % sW n D (d - 1)) = 0 ∧ σ r_Nought0_leading (sS n D (d - 1) + w / sW n D 1) = 0) := by
    rw [hn]
    refine bI_iff ⟨fun ⟨a, b⟩ => ⟨a, ?_⟩, fun ⟨a, b⟩ => ⟨a, ?_⟩⟩
    all_goals
      have hdR : d ≤ R := by
        rcases hR with h | h
        · exact h
        · rw [sW_big h] at a; omega
      first | exact (isB_c hI.1 hLL hdR a).mpr b | exact (isB_c hI.1 hLL hdR a).mp b
  rw [e]
  exact ct_X3_isBasic_Nought0 σ n D p d w hI h1 h2 g01
