/-! circles: what the class holds of them, what the model does -/
section CRC
variable {T : Int → Int → Bool} {N : Nat}
def clA (T : Int → Int → Bool) (N : Nat) (C : Int → Int) (w t : Int) : Prop := (T w w = true → 1 ≤ C w ∧ C w ≤ hT T N w ∧ (hT T N w ≤ t → C w = hT T N w)) ∧ (¬ T w w = true → C w = 0)
def fxA (T : Int → Int → Bool) (C : Int → Int) (u v : Int) : Prop := 0 < C u → 0 < C v → T u v = true → ¬ T v u = true → C v < C u
def crI (T : Int → Int → Bool) (N : Nat) (C : Int → Int) (t M g : Int) : Prop := (∀ w : Int, 0 ≤ w → w < N → clA T N C w (t + 1)) ∧ (0 ≤ M ∧ M ≤ mx (hT T N) N) ∧ (1 ≤ t → ∀ w : Int, 0 ≤ w → w < N → C w ≤ M) ∧ (g = 0 → 1 ≤ t ∧ ∀ w : Int, 0 ≤ w → w < N → C w = hT T N w)
def crJ (T : Int → Int → Bool) (N : Nat) (C : Int → Int) (t M g w : Int) : Prop := (∀ u : Int, 0 ≤ u → u < N → clA T N C u (if u < w then t + 2 else t + 1)) ∧ (0 ≤ M ∧ M ≤ mx (hT T N) N) ∧ (∀ u : Int, 0 ≤ u → u < w → C u ≤ M) ∧ (g = 0 → ∀ u v : Int, 0 ≤ u → u < w → 0 ≤ v → v < N → fxA T C u v)
def cfR (T : Int → Int → Bool) (N : Nat) (C : Int → Int) (w r : Int) : Prop := (r = C w ∨ ∃ v : Int, (0 ≤ v ∧ v < N) ∧ T w v = true ∧ ¬ T v w = true ∧ r = C v + 1 ∧ 0 < C w ∧ C w ≤ C v) ∧ C w ≤ r ∧ (0 < C w → ∀ v : Int, 0 ≤ v → v < N → T w v = true → ¬ T v w = true → C v < r)
theorem cr_0 (h : trT T N) {C : Int → Int} (hC : ∀ w : Int, 0 ≤ w → w < N → C w = bI (T w w = true)) : crI T N C 0 0 1 := by
  refine ⟨fun w a b => ⟨fun g => ?_, fun g => ?_⟩, ⟨Int.le_refl 0, mx_nn _ _⟩, fun g => by omega, fun g => by omega⟩
  · have h1 := h_on h a b g
    rw [hC w a b, bI_t g]
    exact ⟨Int.le_refl 1, h1, fun g2 => by omega⟩
  · rw [hC w a b, bI_f g]
theorem cr_in {C : Int → Int} {t M g : Int} (hI : crI T N C t M g) : crJ T N C t M 0 0 :=
  ⟨fun u a b => by rw [if_neg (by omega)]; exact hI.1 u a b, hI.2.1, fun u a b => by omega, fun _ u v a b => by omega⟩
theorem clA_le {C : Int → Int} {w t : Int} (h : trT T N) (h0 : 0 ≤ w) (h1 : w < N) (hA : clA T N C w t) : 0 ≤ C w ∧ C w ≤ hT T N w ∧ (0 < C w → T w w = true) := by
  by_cases g : T w w = true
  · have := hA.1 g; exact ⟨by omega, by omega, fun _ => g⟩
  · have := hA.2 g; rw [h_off h h0 h1 g]; exact ⟨by omega, by omega, fun _ => by omega⟩
theorem cr_step (h : trT T N) {C : Int → Int} {t M g w r g' : Int} (hJ : crJ T N C t M g w) (hw : 0 ≤ w ∧ w < N) (hr : cfR T N C w r) (hg : g' = 0 → g = 0 ∧ r ≤ C w) : crJ T N (up C w r) t (max M r) g' (w + 1) := by
  obtain ⟨h1, h2, h3, h4⟩ := hJ
  obtain ⟨r1, r2, r3⟩ := hr
  have hle := fun u (a : 0 ≤ u) (b : u < (N : Int)) => clA_le h a b (h1 u a b)
  have hww := h1 w hw.1 hw.2
  rw [if_neg (Int.lt_irrefl w)] at hww
  have rh : r ≤ hT T N w := by
    rcases r1 with e | ⟨v, hv, a1, a2, a3, a4, a5⟩
    · rw [e]; exact (hle w hw.1 hw.2).2.1
    · have hvv := (hle v hv.1 hv.2).2.2 (by omega)
      have hwo := (hle w hw.1 hw.2).2.2 a4
      have := h_gt h hw hv hwo hvv a1 a2
      have := (hle v hv.1 hv.2).2.1
      omega
  have hwM := mx_ge (f := hT T N) N w hw.1 hw.2
  refine ⟨fun u a b => ?_, ⟨by omega, by omega⟩, fun u a b => ?_, fun e u v a b c d => ?_⟩
  · by_cases q : u = w
    · subst q
      rw [if_pos (by omega)]
      refine ⟨fun g => ?_, fun g => ?_⟩
      · rw [up_eq]
        have k := hww.1 g
        refine ⟨by omega, rh, fun g2 => ?_⟩
        rcases h_ex h hw g with e | ⟨v, hv, a1, a2, a3, a4⟩
        · omega
        · have kv := (h1 v hv.1 hv.2).1 a1
          have e1 : C v = hT T N v := kv.2.2 (by split <;> omega)
          have := r3 (by omega) v hv.1 hv.2 a2 a3
          omega
      · rw [up_eq]
        have k := hww.2 g
        rcases r1 with e | ⟨v, hv, a1, a2, a3, a4, a5⟩
        · omega
        · omega
    · have e := h1 u a b
      unfold clA at e ⊢
      rw [up_ne q]
      by_cases q2 : u < w
      · rw [if_pos q2] at e; rw [if_pos (by omega)]; exact e
      · rw [if_neg q2] at e; rw [if_neg (by omega)]; exact e
  · by_cases q : u = w
    · rw [q, up_eq]; omega
    · rw [up_ne q]; have := h3 u a (by omega); omega
  · obtain ⟨e1, e2⟩ := hg e
    have e3 : up C w r = C := by
      funext x
      by_cases q : x = w
      · rw [q, up_eq]; omega
      · rw [up_ne q]
    rw [e3]
    by_cases q : u = w
    · intro g1 g2 g3 g4
      rw [q] at g1 g3 g4 ⊢
      have := r3 g1 v c d g3 g4
      omega
    · exact h4 e1 u v a (by omega) c d
theorem cr_fix (h : trT T N) {C : Int → Int} {t : Int} (h1 : ∀ w : Int, 0 ≤ w → w < N → clA T N C w t) (h2 : ∀ u v : Int, 0 ≤ u → u < N → 0 ≤ v → v < N → fxA T C u v) : ∀ (k : Nat) (w : Int), 0 ≤ w → w < N → hT T N w ≤ k → C w = hT T N w
  | 0, w, a, b, c => by
    by_cases g : T w w = true
    · have := h_on h a b g; omega
    · rw [(h1 w a b).2 g, h_off h a b g]
  | k + 1, w, a, b, c => by
    by_cases g : T w w = true
    · have e := (h1 w a b).1 g
      rcases h_ex h ⟨a, b⟩ g with e2 | ⟨v, hv, a1, a2, a3, a4⟩
      · omega
      · have ih := cr_fix h h1 h2 k v hv.1 hv.2 (by omega)
        have kv := (h1 v hv.1 hv.2).1 a1
        have := h2 w v a b hv.1 hv.2 (by omega) (by omega) a2 a3
        omega
    · rw [(h1 w a b).2 g, h_off h a b g]
theorem cr_round (h : trT T N) {C : Int → Int} {t M g w : Int} (ht : 0 ≤ t) (hJ : crJ T N C t M g w) (hw : w = N) : crI T N C (t + 1) M g := by
  subst hw
  obtain ⟨h1, h2, h3, h4⟩ := hJ
  have h1' : ∀ u : Int, 0 ≤ u → u < N → clA T N C u (t + 1 + 1) := fun u a b => by
    have := h1 u a b
    rw [if_pos b] at this
    rw [show t + 1 + 1 = t + 2 by omega]; exact this
  exact ⟨h1', h2, fun _ => h3, fun g => ⟨by omega, fun w a b => cr_fix h h1' (h4 g) N w a b (h_b h a b).2⟩⟩
theorem cr_fin (h : trT T N) {C : Int → Int} {t M g : Int} (hI : crI T N C t M g) (ht : 0 ≤ t) (hx : N < t ∨ g = 0) : M = mx (hT T N) N := by
  obtain ⟨h1, h2, h3, h4⟩ := hI
  have key : 1 ≤ t ∧ ∀ w : Int, 0 ≤ w → w < N → C w = hT T N w := by
    rcases hx with e | e
    · refine ⟨by omega, fun w a b => ?_⟩
      by_cases g : T w w = true
      · have := h_b h a b
        exact ((h1 w a b).1 g).2.2 (by omega)
      · rw [(h1 w a b).2 g, h_off h a b g]
    · exact h4 e
  have := mx_le (f := hT T N) (B := M) h2.1 N (fun w a b => by rw [← key.2 w a b]; exact h3 key.1 w a b)
  omega
/-- the first place of a circle's ring -/
def fsT (T : Int → Int → Bool) (w : Int) : Prop := T w w = true ∧ ∀ v, 0 ≤ v → v < w → ¬ (T v w = true ∧ T w v = true)
theorem fs_ex (h : trT T N) : ∀ (k : Nat) (w : Int), 0 ≤ w → w < N → w < k → T w w = true → ∃ v : Int, (0 ≤ v ∧ v ≤ w) ∧ fsT T v ∧ T v w = true ∧ T w v = true
  | 0, w, a, b, c, g => by omega
  | k + 1, w, a, b, c, g => by
    by_cases e : ∀ v, 0 ≤ v → v < w → ¬ (T v w = true ∧ T w v = true)
    · exact ⟨w, ⟨a, Int.le_refl w⟩, ⟨g, e⟩, g, g⟩
    · have ⟨v, e1, e2, e3⟩ : ∃ v, 0 ≤ v ∧ v < w ∧ (T v w = true ∧ T w v = true) := Classical.byContradiction fun q => e (fun v e1 e2 e3 => q ⟨v, e1, e2, e3⟩)
      have hvv := h v w v a b e3.1 e3.2
      obtain ⟨x, x1, x2, x3, x4⟩ := fs_ex h k v e1 (by omega) (by omega) hvv
      exact ⟨x, ⟨x1.1, by omega⟩, x2, h x v w e1 (by omega) x3 e3.1, h w v x e1 (by omega) e3.2 x4⟩
def mcA (T : Int → Int → Bool) (N : Nat) (C : Int → Int) : Prop := ∀ w : Int, 0 ≤ w → w < N → (fsT T w → 1 ≤ C w ∧ C w ≤ hT T N w) ∧ (¬ fsT T w → C w = 0)
theorem mc_b (h : trT T N) {C : Int → Int} (hA : mcA T N C) {w : Int} (a : 0 ≤ w) (b : w < N) : 0 ≤ C w ∧ C w ≤ hT T N w ∧ C w ≤ N ∧ (0 < C w → fsT T w) := by
  have e := hA w a b
  have e2 := h_b h a b
  by_cases g : fsT T w
  · have := e.1 g; exact ⟨by omega, by omega, by omega, fun _ => g⟩
  · have := e.2 g; exact ⟨by omega, by omega, by omega, fun _ => by omega⟩
theorem mc_up (h : trT T N) {C : Int → Int} (hA : mcA T N C) {u v : Int} (hu : 0 ≤ u ∧ u < N) (hv : 0 ≤ v ∧ v < N) (h1 : 0 < C u) (h2 : 0 < C v) (h3 : T u v = true) (h4 : ¬ T v u = true) (h5 : C u ≤ C v) : mcA T N (up C u (C v + 1)) ∧ sm C N < sm (up C u (C v + 1)) N := by
  have bu := mc_b h hA hu.1 hu.2
  have bv := mc_b h hA hv.1 hv.2
  have hg := h_gt h hu hv (bu.2.2.2 h1).1 (bv.2.2.2 h2).1 h3 h4
  refine ⟨fun w a b => ?_, ?_⟩
  · by_cases q : w = u
    · rw [q, up_eq]
      exact ⟨fun _ => ⟨by omega, by omega⟩, fun g => absurd (bu.2.2.2 h1) g⟩
    · rw [up_ne q]; exact hA w a b
  · rw [sm_upd N hu.1 hu.2]; omega
theorem mc_fix (h : trT T N) {C : Int → Int} (h1 : mcA T N C) (h2 : ∀ u v : Int, 0 ≤ u → u < N → 0 ≤ v → v < N → fxA T C u v) : ∀ (k : Nat) (w : Int), 0 ≤ w → w < N → hT T N w ≤ k → fsT T w → C w = hT T N w
  | 0, w, a, b, c, g => by have := h_on h a b g.1; omega
  | k + 1, w, a, b, c, g => by
    have e := (h1 w a b).1 g
    rcases h_ex h ⟨a, b⟩ g.1 with e2 | ⟨v, hv, a1, a2, a3, a4⟩
    · omega
    · obtain ⟨x, x1, x2, x3, x4⟩ := fs_ex h (v + 1).toNat v hv.1 hv.2 (by omega) a1
      have hx := h_same h (u := x) (v := v) ⟨x1.1, by omega⟩ hv x3 x4
      have ih := mc_fix h h1 h2 k x x1.1 (by omega) (by omega) x2
      have kx := (h1 x x1.1 (by omega)).1 x2
      have := h2 w x a b x1.1 (by omega) (by omega) (by omega) (h w v x hv.1 hv.2 a2 x4) (fun q => a3 (h v x w x1.1 (by omega) x4 q))
      omega
theorem mc_fin (h : trT T N) {C : Int → Int} (h1 : mcA T N C) (h2 : ∀ u v : Int, 0 ≤ u → u < N → 0 ≤ v → v < N → fxA T C u v) : mx C N = mx (hT T N) N := by
  have h3 := mx_le (f := C) (B := mx (hT T N) N) (mx_nn _ _) N (fun w a b => Int.le_trans (mc_b h h1 a b).2.1 (mx_ge N w a b))
  have h4 := mx_le (f := hT T N) (B := mx C N) (mx_nn _ _) N (fun w a b => by
    by_cases g : T w w = true
    · obtain ⟨x, x1, x2, x3, x4⟩ := fs_ex h (w + 1).toNat w a b (by omega) g
      rw [← h_same h (u := x) (v := w) ⟨x1.1, by omega⟩ ⟨a, b⟩ x3 x4, ← mc_fix h h1 h2 N x x1.1 (by omega) (h_b h x1.1 (by omega)).2 x2]
      exact mx_ge N x x1.1 (by omega)
    · rw [h_off h a b g]; exact mx_nn _ _)
  omega
end CRC
/-- by how many letters a place's ring goes on -/
def cw (L : Int → Int) (n D q w : Int) : Nat → Int := sm (fun x => bI (0 ≤ stp L n D q w x ∧ gT L n D q w (stp L n D q w x) = true ∧ gT L n D q (stp L n D q w x) w = true))
def grR (L : Int → Int) (n D q r : Int) : Prop := (r = -2 ∧ ∃ w, 0 ≤ w ∧ w < sW n D q ∧ 1 < cw L n D q w n.toNat) ∨ ((∀ w, 0 ≤ w → w < sW n D q → cw L n D q w n.toNat ≤ 1) ∧ r = mx (hT (gT L n D q) (sW n D q).toNat) (sW n D q).toNat)
theorem grR_u {L : Int → Int} {n D q r s : Int} (h1 : grR L n D q r) (h2 : grR L n D q s) : r = s := by
  rcases h1 with ⟨a, w, b, c, d⟩ | ⟨a, b⟩ <;> rcases h2 with ⟨a', w', b', c', d'⟩ | ⟨a', b'⟩
  · omega
  · have := a' w b c; omega
  · have := a w' b' c'; omega
  · omega
theorem wb_iff {L : Int → Int} {n D q w x : Int} (hx : 0 ≤ x ∧ x < n) : (¬ stp L n D q w x = -1 ∧ (stp L n D q w x = w ∨ gT L n D q (stp L n D q w x) w = true)) ↔ (¬ stp L n D q w x = -1 ∧ gT L n D q w (stp L n D q w x) = true ∧ gT L n D q (stp L n D q w x) w = true) := by
  have h := gT_e (L := L) (D := D) (q := q) (u := w) hx
  constructor
  · rintro ⟨a, b⟩
    refine ⟨a, h, ?_⟩
    rcases b with b | b
    · rw [b] at h; rw [b]; exact h
    · exact b
  · rintro ⟨a, b, c⟩
    exact ⟨a, .inr c⟩
theorem cw_off {L : Int → Int} {n D q w : Int} (hw : 0 ≤ w ∧ w < sW n D q) (h : ¬ gT L n D q w w = true) : cw L n D q w n.toNat = 0 := sm_zero _ (fun x a b => bI_f (fun g => by
  by_cases e : stp L n D q w x < sW n D q
  · exact h (gT_tr L n D q w (stp L n D q w x) w g.1 e g.2.1 g.2.2)
  · exact absurd (stp_b L (n := n) (D := D) (q := q) (w := w) (x := x) (by omega)).2 e))
