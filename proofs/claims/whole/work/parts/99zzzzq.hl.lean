/-! has a law one length (reference)? -/
def rcG (n D p : Int) (CO CI A : Int → Int) (a b : Int) : Prop := (0 ≤ a ∧ a ≤ b ∧ b ≤ 900) ∧ okK n CO CI a (b - a).toNat ∧ dKn CO a (b - a).toNat = 1 ∧ (∃ q, wkN n D p CO CI a (b - a).toNat = [q] ∧ ∀ x, 0 ≤ x → x < sS n D (D + 1) → q x = A x) ∧ ∀ x, 0 ≤ x → x < sS n D (D + 1) → 0 ≤ A x ∧ A x < p
theorem okK_up {l l' c0 : Int} {CO CI : Int → Int} {m : Nat} (h : okK l CO CI c0 m) (hl : l ≤ l') : okK l' CO CI c0 m := fun k hk => by
  have e := h k hk
  exact ⟨e.1, e.2.1, fun c => ⟨(e.2.2.1 c).1, by have := (e.2.2.1 c).2; omega⟩, e.2.2.2⟩
theorem rc_p {n D p a b : Int} {CO CI A P : Int → Int} (h : rcG n D p CO CI A a b) (g : plR (sS n D (D + 1)) P (dKn CO a (b - a).toNat).toNat (wkN n D p CO CI a (b - a).toNat)) : ∀ x, 0 ≤ x → x < sS n D (D + 1) → P x = A x := by
  obtain ⟨_, _, h3, ⟨q, h4, h5⟩, _⟩ := h
  rw [h3, h4] at g
  obtain ⟨r, rest, e1, e2, _⟩ := g
  have e3 : q = r := (List.cons.inj e1).1
  intro x x0 x1
  have e4 := e2 x x0 x1
  rw [show (400 : Int) * ((0 : Nat) : Int) + x = x by omega] at e4
  rw [e4, ← e3]
  exact h5 x x0 x1
/-- something of length d counts -/
def sdF (n D : Int) (R : Int → Int) (d : Int) : Prop := ∃ w, (0 ≤ w ∧ w < sW n D d) ∧ ¬ R (sS n D d + w) = 0
def mnI (n D : Int) (R : Int → Int) (d many len : Int) : Prop := (many = 0 ∧ len = 0 ∧ ∀ e, 0 ≤ e → e < d → ¬ sdF n D R e) ∨ (many = 1 ∧ (0 ≤ len ∧ len < d) ∧ sdF n D R len ∧ ∀ e, 0 ≤ e → e < d → sdF n D R e → e = len) ∨ ((2 ≤ many ∧ many ≤ d) ∧ (0 ≤ len ∧ len < d) ∧ ∃ e1 e2, 0 ≤ e1 ∧ e1 < e2 ∧ e2 < d ∧ sdF n D R e1 ∧ sdF n D R e2)
section MNI
variable {n D p d many len w so : Int} {R : Int → Int}
theorem mn_0 : mnI n D R 0 0 0 := .inl ⟨rfl, rfl, fun e a b => by omega⟩
theorem mn_b (h : mnI n D R d many len) (hd : 0 ≤ d) : (0 ≤ many ∧ many ≤ d) ∧ (0 ≤ len ∧ len ≤ d) := by
  rcases h with h | h | h
  · omega
  · have := h.2.1; omega
  · have := h.2.1; omega
theorem mn_n (h : mnI n D R d many len) (g : ¬ sdF n D R d) : mnI n D R (d + 1) many len := by
  have key : ∀ e, 0 ≤ e → e < d + 1 → sdF n D R e → e < d := fun e a b c => by
    rcases Int.lt_or_eq_of_le (show e ≤ d by omega) with q | q
    · exact q
    · rw [q] at c; exact absurd c g
  rcases h with h | h | h
  · exact .inl ⟨h.1, h.2.1, fun e a b c => h.2.2 e a (key e a b c) c⟩
  · exact .inr (.inl ⟨h.1, ⟨h.2.1.1, by have := h.2.1.2; omega⟩, h.2.2.1, fun e a b c => h.2.2.2 e a (key e a b c) c⟩)
  · obtain ⟨h1, h2, e1, e2, a, b, c, f⟩ := h
    exact .inr (.inr ⟨⟨h1.1, by omega⟩, ⟨h2.1, by omega⟩, e1, e2, a, b, by omega, f⟩)
theorem mn_s (h : mnI n D R d many len) (hd : 0 ≤ d) (g : sdF n D R d) : mnI n D R (d + 1) (many + 1) d := by
  rcases h with h | h | h
  · refine .inr (.inl ⟨by omega, ⟨hd, by omega⟩, g, fun e a b c => ?_⟩)
    rcases Int.lt_or_eq_of_le (show e ≤ d by omega) with q | q
    · exact absurd c (h.2.2 e a q)
    · exact q
  · obtain ⟨h1, h2, h3, h4⟩ := h
    exact .inr (.inr ⟨by omega, ⟨hd, by omega⟩, len, d, h2.1, h2.2, by omega, h3, g⟩)
  · obtain ⟨h1, h2, e1, e2, a, b, c, f1, f2⟩ := h
    exact .inr (.inr ⟨by omega, ⟨hd, by omega⟩, e1, e2, a, b, by omega, f1, f2⟩)
theorem sd_of (hO : sOk n D p) {x : Int} (h0 : 0 ≤ x) (hx : x < sS n D (D + 1)) (g : ¬ R x = 0) : (0 ≤ sL n D x ∧ sL n D x ≤ D) ∧ sdF n D R (sL n D x) := by
  obtain ⟨e, w, a, b, c, f, rfl⟩ := sL_ex hO h0 hx
  rw [sL_word hO a ⟨c, f⟩]
  exact ⟨⟨a, b⟩, w, ⟨c, f⟩, g⟩
theorem sd_to (hO : sOk n D p) (hd : 0 ≤ d) (g : sdF n D R d) : ∃ x, (0 ≤ x ∧ x < sS n D (D + 1)) ∧ ¬ R x = 0 ∧ sL n D x = d := by
  obtain ⟨w, hw, g⟩ := g
  have k := sS_word hO hd hw
  exact ⟨_, ⟨k.1, k.2.2.1⟩, g, sL_word hO hd hw⟩
theorem mn_z (hO : sOk n D p) (h : mnI n D R (D + 1) many len) (hm : many = 0) : hmQ n D R 0 := by
  have hD := hO.2.1
  have z : ∀ x, 0 ≤ x → x < sS n D (D + 1) → R x = 0 := fun x x0 x1 => Decidable.byContradiction fun q => by
    have k := sd_of hO x0 x1 q
    rcases h with h | h | h
    · exact h.2.2 _ k.1.1 (by omega) k.2
    · omega
    · omega
  exact ⟨by omega, fun x x0 x1 q => absurd (z x x0 x1) q, fun _ => rfl⟩
theorem mn_y (hO : sOk n D p) (h : mnI n D R (D + 1) many len) (hm : many = 1) (hl : 0 < len) : hmQ n D R len := by
  rcases h with h | h | h
  · omega
  · refine ⟨⟨h.2.1.1, by have := h.2.1.2; omega⟩, fun x x0 x1 q => ?_, fun q => ?_⟩
    · have k := sd_of hO x0 x1 q
      exact ⟨h.2.2.2 _ k.1.1 (by omega) k.2, by omega⟩
    · obtain ⟨x, hx, g, _⟩ := sd_to hO h.2.1.1 h.2.2.1
      exact absurd (q x hx.1 hx.2) g
  · omega
theorem mn_x (hO : sOk n D p) (h : mnI n D R (D + 1) many len) (hm : ¬ many = 0) (g : ¬ (many = 1 ∧ 0 < len)) : ¬ ∃ d, hmQ n D R d := by
  rintro ⟨d, q⟩
  rcases h with h | h | h
  · omega
  · have e : len = 0 := by have := h.2.1; omega
    obtain ⟨x, hx, g1, g2⟩ := sd_to hO h.2.1.1 h.2.2.1
    have := q.2.1 x hx.1 hx.2 g1
    omega
  · obtain ⟨h1, h2, e1, e2, a, b, c, f1, f2⟩ := h
    obtain ⟨x, hx, g1, g2⟩ := sd_to hO a f1
    obtain ⟨y, hy, g3, g4⟩ := sd_to hO (show 0 ≤ e2 by omega) f2
    have k1 := (q.2.1 x hx.1 hx.2 g1).1
    have k2 := (q.2.1 y hy.1 hy.2 g3).1
    omega
/-- is there something of length d among the first w words -/
def smW (n D : Int) (R : Int → Int) (d w so : Int) : Prop := (so = 0 ∧ ∀ v, 0 ≤ v → v < w → R (sS n D d + v) = 0) ∨ (so = 1 ∧ sdF n D R d)
theorem sw_0 : smW n D R d 0 0 := .inl ⟨rfl, fun v a b => by omega⟩
theorem sw_k (h : smW n D R d w so) (g : R (sS n D d + w) = 0) : smW n D R d (w + 1) so := by
  rcases h with h | h
  · refine .inl ⟨h.1, fun v a b => ?_⟩
    rcases Int.lt_or_eq_of_le (show v ≤ w by omega) with q | q
    · exact h.2 v a q
    · rw [q]; exact g
  · exact .inr h
theorem sw_1 (h : smW n D R d w so) (g : ¬ so = 0) : smW n D R d (w + 1) 1 := by
  rcases h with h | h
  · exact absurd h.1 g
  · exact .inr ⟨rfl, h.2⟩
theorem sw_s (hw : 0 ≤ w ∧ w < sW n D d) (g : ¬ R (sS n D d + w) = 0) : smW n D R d (w + 1) 1 := .inr ⟨rfl, w, hw, g⟩
theorem sw_n (h : smW n D R d w so) (hw : sW n D d ≤ w) (g : so = 0) : ¬ sdF n D R d := by
  rintro ⟨v, hv, q⟩
  rcases h with h | h
  · exact q (h.2 v hv.1 (by omega))
  · omega
theorem sw_y (h : smW n D R d w so) (g : ¬ so = 0) : sdF n D R d := by
  rcases h with h | h
  · exact absurd h.1 g
  · exact h.2
theorem sw_b (h : smW n D R d w so) : so = 0 ∨ so = 1 := h.elim (fun q => .inl q.1) (fun q => .inr q.1)
end MNI
theorem hm_c2 {n D : Int} {R R' : Int → Int} (e : ∀ x, 0 ≤ x → x < sS n D (D + 1) → R x = R' x) (h : ¬ ∃ d, hmQ n D R d) : ¬ ∃ d, hmQ n D R' d := fun ⟨d, k⟩ => h ⟨d, hmQ_c k (fun x a b => (e x a b).symm)⟩
