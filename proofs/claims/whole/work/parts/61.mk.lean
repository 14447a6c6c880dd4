/-! plain forms of rows (class), products word by word (model) -/
theorem sG_above {f : Int → Int} : ∀ m : Nat, ∀ x : Int, sG f m < x → x < m → f x = 0
  | 0, x, h0, h1 => by have : (-1 : Int) < x := h0; omega
  | m + 1, x, h0, h1 => by
    have h0 : (if f m = 0 then sG f m else (m : Int)) < x := h0
    by_cases c : f m = 0
    · rw [if_pos c] at h0
      by_cases e : x = m
      · rw [e]; exact c
      · exact sG_above m x h0 (by omega)
    · rw [if_neg c] at h0; omega
theorem top_t {n D p : Int} {f : Int → Int} (hO : sOk n D p) {t : Int} (ht : t = (if sG f (sS n D (D + 1)).toNat = -1 then -1 else sL n D (sG f (sS n D (D + 1)).toNat))) : (-1 ≤ t ∧ t ≤ D) ∧ ∀ x, 0 ≤ x → x < sS n D (D + 1) → t < sL n D x → f x = 0 := by
  have hb := sG_bb (f := f) hO
  by_cases c : sG f (sS n D (D + 1)).toNat = -1
  · rw [if_pos c] at ht
    have := hO.2.1.1
    exact ⟨by omega, fun x h0 h1 _ => sG_nn (sS n D (D + 1)).toNat (by omega) x h0 (by omega)⟩
  · rw [if_neg c] at ht
    obtain ⟨a1, a2, a3, a4⟩ := sL_w hO (show 0 ≤ sG f (sS n D (D + 1)).toNat by omega) hb.2
    refine ⟨by omega, fun x h0 h1 h2 => ?_⟩
    rcases Int.lt_or_le (sG f (sS n D (D + 1)).toNat) x with h | h
    · exact sG_above _ _ h (by omega)
    · exfalso
      obtain ⟨b1, b2, b3, b4⟩ := sL_w hO h0 h1
      have m := sS_mono (D := D) hO.1.1 (show sL n D (sG f (sS n D (D + 1)).toNat) + 1 ≤ sL n D x by omega)
      have s := sS_succ (n := n) (D := D) a1
      omega
theorem nf_00 {n D p d : Int} {LW : Int → (Int → Int) → Prop} (hp : 2 ≤ p) (hD : 0 ≤ D) (hd : 0 ≤ d) {f g : Int → Int} (hf : ∀ j, 0 ≤ j → j < sW n D d → f j = 0) (hg : ∀ j, 0 ≤ j → j < sW n D d → g j = 0) : isNF p (sW n D d) (nV n D p LW d.toNat) f g := by
  have hs := nV_subI (n := n) (LW := LW) (show 0 < p by omega) hD hd
  exact ⟨vS_ext hs hs.1 (fun j a b => mE_of (by show (0 : Int) = f j - g j; rw [hf j a b, hg j a b]; rfl)), fun j a b => by rw [hg j a b]; omega, fun k a b _ => hg k a b⟩
theorem mk_fin {n D p d t : Int} {LW : Int → (Int → Int) → Prop} {f T : Int → Int} (hO : sOk n D p) (ht : (-1 ≤ t ∧ t ≤ D) ∧ ∀ x, 0 ≤ x → x < sS n D (D + 1) → t < sL n D x → f x = 0) (hd : t < d) (h0 : 0 ≤ d) (hN : ∀ e, 0 ≤ e → e < d → isNF p (sW n D e) (nV n D p LW e.toNat) (fun j => f (sS n D e + j)) (fun j => T (sS n D e + j))) (hT : ∀ x, sS n D d ≤ x → x < 364 → T x = 0) : nfR n D p LW f T := by
  intro e h1 h2
  rcases Int.lt_or_le e d with h | h
  · exact hN e h1 h
  · refine nf_00 hO.2.2.2.1 (by omega) h1 (fun j a b => ?_) (fun j a b => ?_)
    · have k := sS_word hO h1 ⟨a, b⟩
      exact ht.2 _ k.1 k.2.2.1 (by rw [sL_word hO h1 ⟨a, b⟩]; omega)
    · have k := sS_word hO h1 ⟨a, b⟩
      have m := sS_mono (D := D) hO.1.1 h
      exact hT _ (by omega) (by omega)
theorem bAt_w {n D p d e u v : Int} (hO : sOk n D p) (hd : 0 ≤ d) (he : 0 ≤ e) (hu : 0 ≤ u ∧ u < sW n D d) (hv : 0 ≤ v ∧ v < sW n D e) : bAt n D (sS n D d + u) (sS n D e + v) = sS n D (d + e) + u * sW n D e + v := by
  unfold bAt
  rw [sL_word hO hd hu, sL_word hO he hv, show sS n D d + u - sS n D d = u by omega]
  omega
theorem cpy_at {f g : Int → Int} {S W x : Int} (h : 0 ≤ x ∧ x < W) : en_cpy f g (0 + 0) (0 + S) W (S + x) = f x := by
  rw [cpy_new, show (0 : Int) + S = S by omega, seg_in h]
  show f (0 + 0 + x) = f x
  rw [show (0 : Int) + 0 + x = x by omega]
