/-! laws of one length -/
def hmQ (n D : Int) (R : Int → Int) (d : Int) : Prop := (0 ≤ d ∧ d ≤ D) ∧ (∀ x, 0 ≤ x → x < sS n D (D + 1) → ¬ R x = 0 → sL n D x = d ∧ 1 ≤ d) ∧ ((∀ x, 0 ≤ x → x < sS n D (D + 1) → R x = 0) → d = 0)
theorem hmQ_c {n D d : Int} {R R' : Int → Int} (h : hmQ n D R d) (e : ∀ x, 0 ≤ x → x < sS n D (D + 1) → R x = R' x) : hmQ n D R' d := ⟨h.1, fun x a b c => h.2.1 x a b (by rw [e x a b]; exact c), fun g => h.2.2 (fun x a b => by rw [e x a b]; exact g x a b)⟩
theorem hmQ_u {n D d d' : Int} {R : Int → Int} (h : hmQ n D R d) (g : hmQ n D R d') : d = d' := by
  by_cases c : ∀ x, 0 ≤ x → x < sS n D (D + 1) → R x = 0
  · rw [h.2.2 c, g.2.2 c]
  · rcases Classical.em (∃ x, (0 ≤ x ∧ x < sS n D (D + 1)) ∧ ¬ R x = 0) with ⟨x, hx, hr⟩ | q
    · rw [← (h.2.1 x hx.1 hx.2 hr).1, ← (g.2.1 x hx.1 hx.2 hr).1]
    · exact absurd (fun x a b => Decidable.byContradiction fun k => q ⟨x, ⟨a, b⟩, k⟩) c
/-- the law that begins at fr is too long -/
def lwB (K : Int → Int) (D m fr : Int) : Prop := D < lgV K m fr ∨ (K (enD K m fr) = 8 ∧ D < lgV K m (enD K m fr + 1))
/-- the law that begins at fr -/
noncomputable def lvV (n D p : Int) (K V : Int → Int) (m fr x : Int) : Int := if K (enD K m fr) = 8 then (evV n D p K V m fr x - evV n D p K V m (enD K m fr + 1) x) % p else evV n D p K V m fr x
/-- the tokens of a law are well formed, with letters below n -/
def lwP (K V : Int → Int) (n m fr : Int) : Prop := enD K m fr < m ∧ dOk K m fr ∧ sKd K m fr ∧ (∀ j, fr ≤ j → j < enD K m fr → (K j = 6 → 0 ≤ V j ∧ V j ≤ 9999) ∧ (K j = 5 → 0 ≤ V j ∧ V j < n)) ∧ (K (enD K m fr) = 8 → dOk K m (enD K m fr + 1) ∧ sKd K m (enD K m fr + 1) ∧ ∀ j, enD K m fr + 1 ≤ j → j < enD K m (enD K m fr + 1) → (K j = 6 → 0 ≤ V j ∧ V j ≤ 9999) ∧ (K j = 5 → 0 ≤ V j ∧ V j < n))
theorem lvV_0 {n D p m fr x : Int} {K V : Int → Int} (h : ¬ K (enD K m fr) = 8) : lvV n D p K V m fr x = evV n D p K V m fr x := if_neg h
theorem lvV_8 {n D p m fr x : Int} {K V : Int → Int} (h : K (enD K m fr) = 8) : lvV n D p K V m fr x = (evV n D p K V m fr x - evV n D p K V m (enD K m fr + 1) x) % p := if_pos h
theorem enD_b {K : Int → Int} {m fr : Int} (h : fr ≤ m) : fr ≤ enD K m fr ∧ enD K m fr ≤ m := (rn_b (q := fun j => ¬ (K j = 8 ∨ K j = 7)) (N := m) (i := fr) h).1
theorem sG_hit {f : Int → Int} : ∀ m : Nat, 0 ≤ sG f m → ¬ f (sG f m) = 0
  | 0, h => by have : (-1 : Int) ≥ 0 := h; omega
  | m + 1, h => by
    by_cases c : f m = 0
    · have e : sG f (m + 1) = sG f m := if_pos c
      rw [e] at h ⊢
      exact sG_hit m h
    · have e : sG f (m + 1) = m := if_neg c
      rw [e]; exact c
section KL
variable {n D p t : Int} {R : Int → Int}
theorem kl_s1 (hO : sOk n D p) : sS n D 1 = 1 := by
  rw [show (1 : Int) = 0 + 1 by omega, sS_succ (by omega), sS_0, sW_0 (by have := hO.2.1; omega)]
theorem kl_l0 (hO : sOk n D p) : sL n D 0 = 0 := by
  have h := sL_word hO (Int.le_refl 0) (w := 0) (by rw [sW_0 (by have := hO.2.1; omega)]; decide)
  rw [sS_0] at h
  exact h
/-- where the greatest word that counts stands -/
theorem kl_t (hO : sOk n D p) (ht : t = (if sG R (sS n D (D + 1)).toNat = -1 then -1 else sL n D (sG R (sS n D (D + 1)).toNat))) : (0 ≤ t → ∃ x, (0 ≤ x ∧ x < sS n D (D + 1)) ∧ ¬ R x = 0 ∧ sL n D x = t) ∧ (t < 0 → ∀ x, 0 ≤ x → x < sS n D (D + 1) → R x = 0) := by
  have hb := sG_bb (f := R) hO
  have hs := sS_b (k := D + 1) hO
  refine ⟨fun h => ?_, fun h x a b => ?_⟩
  · by_cases c : sG R (sS n D (D + 1)).toNat = -1
    · rw [if_pos c] at ht; omega
    · rw [if_neg c] at ht
      refine ⟨_, ⟨by omega, hb.2⟩, ?_, ht.symm⟩
      exact sG_hit _ (by omega)
  · by_cases c : sG R (sS n D (D + 1)).toNat = -1
    · exact sG_nn (sS n D (D + 1)).toNat (by omega) x a (by omega)
    · rw [if_neg c] at ht
      have := sL_b n D (sG R (sS n D (D + 1)).toNat)
      omega
theorem kl_y (hO : sOk n D p) (ht : t = (if sG R (sS n D (D + 1)).toNat = -1 then -1 else sL n D (sG R (sS n D (D + 1)).toNat))) (hz : ∀ x, 0 ≤ x → x < sS n D (max 0 t) → R x = 0) (h0 : max 0 t = 0 → R 0 = 0) : hmQ n D R (max 0 t) := by
  have h1 := top_t hO ht
  have h2 := kl_t hO ht
  have hD := hO.2.1
  refine ⟨by omega, fun x a b c => ?_, fun g => ?_⟩
  · have h3 : sL n D x ≤ t := by
      rcases Int.lt_or_le t (sL n D x) with q | q
      · exact absurd (h1.2 x a b q) c
      · exact q
    have h4 := sL_b n D x
    have h5 : ¬ x < sS n D (max 0 t) := fun q => c (hz x a q)
    have h6 : ¬ max 0 t = 0 := fun q => by
      have h7 := (sL_lt hO a b (Int.le_refl 0)).mpr (by omega)
      rw [show (0 : Int) + 1 = 1 by rfl, kl_s1 hO] at h7
      exact c (by rw [show x = 0 by omega]; exact h0 q)
    have h8 := sL_lt hO a b (show 0 ≤ max 0 t - 1 by omega)
    rw [show max 0 t - 1 + 1 = max 0 t by omega] at h8
    have h9 : ¬ sL n D x ≤ max 0 t - 1 := fun q => h5 (h8.mpr q)
    omega
  · rcases Int.lt_or_le t 0 with q | q
    · omega
    · obtain ⟨x, hx, hr, _⟩ := h2.1 q
      exact absurd (g x hx.1 hx.2) hr
theorem kl_n (hO : sOk n D p) (ht : t = (if sG R (sS n D (D + 1)).toNat = -1 then -1 else sL n D (sG R (sS n D (D + 1)).toNat))) {x : Int} (hx : 0 ≤ x ∧ x < sS n D (max 0 t)) (h : ¬ R x = 0) : ¬ ∃ d, hmQ n D R d := by
  rintro ⟨d, h1, h2, h3⟩
  have h4 := top_t hO ht
  have hm := sS_mono (D := D) hO.1.1 (show max 0 t ≤ D + 1 by omega)
  have h5 : 1 ≤ max 0 t := by
    rcases Int.lt_or_le 0 (max 0 t) with q | q
    · omega
    · rw [sS_neg q] at hx; omega
  have h8 := sL_lt hO hx.1 (by omega) (show 0 ≤ max 0 t - 1 by omega)
  rw [show max 0 t - 1 + 1 = max 0 t by omega] at h8
  have h9 := h8.mp hx.2
  obtain ⟨y, hy, hr, hl⟩ := (kl_t hO ht).1 (by omega)
  have k1 := h2 x hx.1 (by omega) h
  have k2 := h2 y hy.1 hy.2 hr
  omega
theorem kl_n0 (hO : sOk n D p) (h : ¬ R 0 = 0) : ¬ ∃ d, hmQ n D R d := by
  rintro ⟨d, h1, h2, h3⟩
  have hm := sS_mono (D := D) hO.1.1 (show 1 ≤ D + 1 by have := hO.2.1; omega)
  rw [kl_s1 hO] at hm
  have k := h2 0 (Int.le_refl 0) (by omega) h
  rw [kl_l0 hO] at k
  omega
end KL
/-- laws told before the i-th token -/
def cLw (K : Int → Int) (i : Int) : Int := sm (fun j => if K j = 4 then 1 else 0) i.toNat
theorem cLw_s {K : Int → Int} {i : Int} (h : 0 ≤ i) : cLw K (i + 1) = cLw K i + (if K i = 4 then 1 else 0) := sm_s _ h
theorem cLw_b {K : Int → Int} {i j : Int} (hi : 0 ≤ i) (h : i ≤ j) : 0 ≤ cLw K i ∧ cLw K i ≤ cLw K j := by
  obtain ⟨t, rfl⟩ : ∃ t : Nat, j = i + t := ⟨(j - i).toNat, by omega⟩
  clear h
  have h0 : ∀ a : Nat, 0 ≤ cLw K a := fun a => by
    induction a with
    | zero => exact Int.le_refl 0
    | succ a ih =>
      have := cLw_s (K := K) (i := a) (by omega)
      rw [show ((a + 1 : Nat) : Int) = (a : Int) + 1 by omega, this]
      split <;> omega
  refine ⟨by have := h0 i.toNat; rw [show ((i.toNat : Nat) : Int) = i by omega] at this; exact this, ?_⟩
  induction t with
  | zero => rw [show i + ((0 : Nat) : Int) = i by omega]; exact Int.le_refl _
  | succ t ih =>
    have := cLw_s (K := K) (i := i + t) (by omega)
    rw [show i + ((t + 1 : Nat) : Int) = i + t + 1 by omega, this]
    split <;> omega
theorem cp_V {n D p m fr x : Int} {K V S T L f : Int → Int} (hO : sOk n D p) (hm : fr ≤ m) (hk : sKd K m fr) (h : dOk K m fr) (e : f = evR n D p K V m fr S T) (hx : 0 ≤ x ∧ x < 364) : en_cpy f L (0 + 0) (0 + 0) 364 x = evV n D p K V m fr x := by
  rw [lp_cp hx, e]
  exact evR_V hO hm hk h hx
theorem ls_V {n D p m fr r x : Int} {K V S T S' T' L f g : Int → Int} (hO : sOk n D p) (hm : fr ≤ m) (hk : sKd K m fr) (h : dOk K m fr) (e : f = evR n D p K V m fr S T) (he : enD K m fr = r) (h8 : K r = 8) (hm2 : r + 1 ≤ m) (h2 : dOk K m (r + 1)) (hk2 : sKd K m (r + 1)) (e2 : g = evR n D p K V m (r + 1) S' T') (hx : 0 ≤ x ∧ x < 364) : seg (en_cpy f L (0 + 0) (0 + 0) 364) 0 364 (fun x => (en_cpy f L (0 + 0) (0 + 0) 364 x - g x) % p) x = lvV n D p K V m fr x := by
  rw [seg_in0 hx, cp_V hO hm hk h e hx, e2, evR_V hO hm2 hk2 h2 hx, lvV_8 (by rw [he]; exact h8), he]
theorem tl_fin {n D q N2 r : Int} {law LV ln L2 lr R2 : Int → Int} {B U X : Prop} (hO : sS n D (D + 1) ≤ 364) (hl : ∀ x, 0 ≤ x → x < 364 → law x = LV x) (hB : ¬ B) (hw : ∀ d w, 0 ≤ d → 0 ≤ w → w < sW n D d → 0 ≤ sS n D d + w ∧ sS n D d + w < 364) (h : (r = 1 ∧ ∃ d, hmQ n D law d ∧ L2 = up ln q d ∧ N2 = q + 1 ∧ (∀ w, 0 ≤ w → w < sW n D d → R2 (q * 256 + w) = law (sS n D d + w)) ∧ X) ∨ (r = 0 ∧ (¬ ∃ d, hmQ n D law d) ∧ U)) : (r = 1 ∧ ¬ B ∧ ∃ d, hmQ n D LV d ∧ L2 = up ln q d ∧ N2 = q + 1 ∧ (∀ w, 0 ≤ w → w < sW n D d → R2 (q * 256 + w) = LV (sS n D d + w)) ∧ X) ∨ (r = 0 ∧ (B ∨ ¬ ∃ d, hmQ n D LV d) ∧ U) := by
  rcases h with ⟨a, d, b, c, e, f, g⟩ | ⟨a, b, c⟩
  · exact .inl ⟨a, hB, d, hmQ_c b (fun x x0 x1 => hl x x0 (by omega)), c, e, fun w w0 w1 => by
      have := hw d w b.1.1 w0 w1
      rw [f w w0 w1, hl _ this.1 this.2], g⟩
  · exact .inr ⟨a, .inr (fun ⟨d, k⟩ => b ⟨d, hmQ_c k (fun x x0 x1 => (hl x x0 (by omega)).symm)⟩), c⟩
/-- the law at token j is good -/
def lkG (n D p : Int) (K V : Int → Int) (m j : Int) : Prop := ¬ lwB K D m (j + 1) ∧ ∃ d, hmQ n D (lvV n D p K V m (j + 1)) d
/-- laws kept of the tokens before i -/
def lkQ (n D p : Int) (K V : Int → Int) (m : Int) (LG LR : Int → Int) (i : Int) : Prop := ∀ j, 0 ≤ j → j < i → K j = 4 → ¬ lwB K D m (j + 1) ∧ hmQ n D (lvV n D p K V m (j + 1)) (LG (cLw K j)) ∧ ∀ w, 0 ≤ w → w < sW n D (LG (cLw K j)) → LR (cLw K j * 256 + w) = lvV n D p K V m (j + 1) (sS n D (LG (cLw K j)) + w)
theorem lkQ_n {n D p m i : Int} {K V LG LR : Int → Int} (h : lkQ n D p K V m LG LR i) (hk : ¬ K i = 4) : lkQ n D p K V m LG LR (i + 1) := fun j a b c => by
  by_cases e : j = i
  · rw [e] at c; exact absurd c hk
  · exact h j a (by omega) c
theorem lkQ_s {n D p q m i d : Int} {K V LG LR LG' LR' : Int → Int} (hO : sOk n D q) (hi : 0 ≤ i) (h : lkQ n D p K V m LG LR i) (hk : K i = 4) (hB : ¬ lwB K D m (i + 1)) (hd : hmQ n D (lvV n D p K V m (i + 1)) d) (e1 : LG' = up LG (cLw K i) d) (e2 : ∀ w, 0 ≤ w → w < sW n D d → LR' (cLw K i * 256 + w) = lvV n D p K V m (i + 1) (sS n D d + w)) (e3 : ∀ x, (x < cLw K i * 256 ∨ cLw K i * 256 + 256 ≤ x) → LR' x = LR x) : lkQ n D p K V m LG' LR' (i + 1) := fun j a b c => by
  by_cases e : j = i
  · subst e
    rw [e1, up_eq]
    exact ⟨hB, hd, e2⟩
  · have k := h j a (by omega) c
    have c1 := cLw_s (K := K) a
    rw [if_pos c] at c1
    have c2 := (cLw_b (K := K) (i := j + 1) (j := i) (by omega) (by omega)).2
    have ne : LG' (cLw K j) = LG (cLw K j) := by rw [e1]; exact up_ne (by omega)
    rw [ne]
    refine ⟨k.1, k.2.1, fun w w0 w1 => ?_⟩
    have hw := sW_b (k := LG (cLw K j)) hO
    rw [e3 _ (.inl (by omega))]
    exact k.2.2 w w0 w1
theorem lkQ_g {n D p m i : Int} {K V LG LR : Int → Int} (h : lkQ n D p K V m LG LR i) : ∀ j, 0 ≤ j → j < i → K j = 4 → lkG n D p K V m j := fun j a b c => ⟨(h j a b c).1, _, (h j a b c).2.1⟩
