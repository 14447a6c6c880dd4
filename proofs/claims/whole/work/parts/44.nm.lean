/-! one length more: what was known of the shorter ones stays -/
theorem cD_ext {p W : Int} {V : (Int → Int) → Prop} {F F' : Int → Int → Int} {L L' : Int → Int} (h : cD p W V F L) (hF : ∀ w k, 0 ≤ w → w < W → 0 ≤ k → k < W → F' w k = F w k) (hL : ∀ w, 0 ≤ w → w < W → L' w = L w) : cD p W V F' L' := by
  obtain ⟨a, b, c, d, e, f⟩ := h
  refine ⟨fun w k h0 h1 h2 h3 => ?_, fun w k h0 h1 h2 => ?_, fun w k h0 h1 h2 h3 e1 => ?_, fun w h0 h1 e1 k h2 h3 => ?_, fun w h0 h1 => ?_, fun v => (f v).trans ⟨fun g k h0 h1 => ?_, fun g k h0 h1 => ?_⟩⟩
  · rw [hF w k h0 h1 h2 h3]; exact a w k h0 h1 h2 h3
  · rw [hF w k h0 (by omega) (by omega) h2]; exact b w k h0 h1 h2
  · rw [hF w k h0 h1 h2 h3]; rw [hL k h2 h3] at e1; exact c w k h0 h1 h2 h3 e1
  · rw [hF w k h0 h1 h2 h3]; rw [hL w h0 h1] at e1; exact d w h0 h1 e1 k h2 h3
  · rw [hL w h0 h1]; exact e w h0 h1
  · have := g k h0 h1
    rwa [sm_ext _ (fun w g0 g1 => by rw [← hF w k g0 (by omega) h0 h1])] at this
  · have := g k h0 h1
    rwa [sm_ext _ (fun w g0 g1 => by rw [hF w k g0 (by omega) h0 h1])] at this
theorem up_up (f : Int → Int) (i a b : Int) : up (up f i a) i b = up f i b := by
  funext x
  unfold up
  split <;> rfl
theorem sQ_up {n D p e d : Int} (hO : sOk n D p) (h0 : 0 ≤ e) (h1 : e < d) : (∀ w k, 0 ≤ w → w < sW n D e → 0 ≤ k → k < sW n D e → sQ n D e + w * sW n D e + k < sQ n D d) ∧ ∀ w, 0 ≤ w → w < sW n D e → sS n D e + w < sS n D d := by
  refine ⟨fun w k a b c e' => ?_, fun w a b => ?_⟩
  · have g1 := sQ_lt (n := n) (D := D) h0 ⟨a, b⟩ ⟨c, e'⟩
    have g2 := sQ_mono (n := n) (D := D) hO.1.1 (show 0 ≤ e + 1 by omega) (show e + 1 ≤ d by omega)
    omega
  · have g1 := sS_succ (n := n) (D := D) h0
    have g2 := sS_mono (D := D) hO.1.1 (show e + 1 ≤ d by omega)
    omega
theorem cNd_up {fm fs ld sz fm' fs' ld' sz' : Int → Int} {n D p e d : Int} {LW : Int → (Int → Int) → Prop} (hO : sOk n D p) (h0 : 0 ≤ e) (h1 : e < d) (h : cNd fm fs ld sz n D p LW e) (hf : ∀ x, x < sQ n D d → fm' x = fm x) (hl : ∀ x, x < sS n D d → ld' x = ld x) (hs : ∀ x, ¬ x = d → sz' x = sz x) (hq : ∀ x, ¬ x = d + 1 → fs' x = fs x) : cNd fm' fs' ld' sz' n D p LW e := by
  obtain ⟨a, b, c, g⟩ := h
  obtain ⟨i1, i2⟩ := sQ_up hO h0 h1
  refine ⟨by rw [hq _ (by omega)]; exact a, by rw [hq _ (by omega)]; exact b, cD_ext c (fun w k a1 a2 a3 a4 => hf _ (i1 w k a1 a2 a3 a4)) (fun w a1 a2 => hl _ (i2 w a1 a2)), ?_⟩
  rw [hs _ (by omega), g]
  exact sm_ext _ (fun w a1 a2 => by show (if ld (sS n D e + w) = 0 then 1 else 0) = (if ld' (sS n D e + w) = 0 then 1 else 0); rw [hl _ (i2 w a1 (by omega))])
theorem cNg_step {fm fs ld sz rw_ fm' fs' ld' sz' rw2 : Int → Int} {n D p R d : Int} {LW : Int → (Int → Int) → Prop} (hO : sOk n D p) (hd : d ≤ D) (hR : R + 1 = d) (h : cNg fm fs ld sz rw_ n D p LW R) (hn : cNd fm' fs' ld' sz' n D p LW d) (hf : ∀ x, x < sQ n D d → fm' x = fm x) (hl : ∀ x, x < sS n D d → ld' x = ld x) (hs : ∀ x, ¬ x = d → sz' x = sz x) (hq : ∀ x, ¬ x = d + 1 → fs' x = fs x) (h1 : R97 rw2) (h2 : R97 fm') (h3 : R01 ld') : cNg fm' fs' ld' sz' rw2 n D p LW d := by
  obtain ⟨a, b, c, e, f, g⟩ := h
  refine ⟨by omega, h2, h3, h1, by rw [hq _ (by omega)]; exact f, fun x h0 hx => ?_⟩
  by_cases c : x = d
  · rw [c]; exact hn
  · exact cNd_up hO h0 (by omega) (g x h0 (by omega)) hf hl hs hq
theorem build_0 {n D p : Int} {LW : Int → (Int → Int) → Prop} {f l : Int → Int} (hO : sOk n D p) : cD p (sW n D 0) (nV n D p LW (0 : Int).toNat) (fun w k => up f 0 1 (sQ n D 0 + w * sW n D 0 + k)) (fun w => up l 0 0 (sS n D 0 + w)) := by
  have hD := hO.2.1.1
  rw [sW_0 (by omega)]
  exact cD_0 hO.2.2.2.1 (up_eq _ _ _) (up_eq _ _ _)
theorem build_fin {n D p d : Int} {LW : Int → (Int → Int) → Prop} {f l G Z lr ln E1 : Int → Int} {m : Int} {E : (Int → Int) → Prop} (hO : sOk n D p) (hd : 1 ≤ d ∧ d ≤ D) (h1 : cD p (sW n D (d - 1)) (nV n D p LW (d - 1).toNat) (fun w k => f (sQ n D (d - 1) + w * sW n D (d - 1) + k)) (fun w => l (sS n D (d - 1) + w))) (h0 : 2 ≤ d → cD p (sW n D (d - 1 - 1)) (nV n D p LW (d - 1 - 1).toNat) (fun w k => f (sQ n D (d - 1 - 1) + w * sW n D (d - 1 - 1) + k)) (fun w => l (sS n D (d - 1 - 1) + w)))
    (hE : cD p (sW n D d) E (fun w k => G (sQ n D d + w * sW n D d + k)) (fun w => Z (sS n D d + w))) (hB : ∀ v, vBlk n (sW n D (d - 1)) (nV n D p LW (d - 1).toNat) v → E v) (hC : ∀ w, 0 ≤ w → w < sW n D (d - 1) → (2 ≤ d ∧ l (sS n D (d - 1) + w) = 1 ∧ l (sS n D (d - 1 - 1) + w % sW n D (d - 1 - 1)) = 0) → ∀ x, 0 ≤ x → x < n → E (xr n x (fun j => eW w j - f (sQ n D (d - 1) + w * sW n D (d - 1) + j)))) (hL : lwOk lr ln m n D p LW) (hD : ∀ i, 0 ≤ i → i < m → ln i = d → E (fun j => lr (i * 256 + j))) (hA : ∀ v, E v → nV n D p LW d.toNat v) :
    cD p (sW n D d) (nV n D p LW d.toNat) (fun w k => G (sQ n D d + w * sW n D d + k)) (fun w => Z (sS n D d + w)) := by
  have e := nV_classI hO hO.2.2.2 hd h1 h0 (cD_sub hE) hB (fun w a b c e g => hC w a b ⟨e, c, g⟩) (fun r hr => ?_) hA
  · rw [← e]; exact hE
  · obtain ⟨i, i0, i1, i2, i3⟩ := hL.2 d r hr
    exact vS_ext (cD_sub hE) (hD i i0 i1 i2) (fun j a b => mE_symm (i3 j a b))
