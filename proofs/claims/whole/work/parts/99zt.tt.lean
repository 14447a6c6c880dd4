/-! the laws' words written down term by term; words put in order -/
def pm (f : Int → Int) : Nat → Int
  | 0 => 1
  | m + 1 => pm f m * f m
theorem pm_s (f : Int → Int) {k : Int} (h : 0 ≤ k) : pm f (k + 1).toNat = pm f k.toNat * f k := by
  rw [show (k + 1).toNat = k.toNat + 1 by omega]
  show pm f k.toNat * f (k.toNat : Int) = _
  rw [show ((k.toNat : Nat) : Int) = k by omega]
theorem pm_x {f g : Int → Int} : ∀ m : Nat, (∀ j : Int, 0 ≤ j → j < m → f j = g j) → pm f m = pm g m
  | 0, _ => rfl
  | m + 1, h => by
    show pm f m * f m = pm g m * g m
    rw [pm_x m (fun j a b => h j a (by omega)), h m (by omega) (by omega)]
theorem pm_mul (f g : Int → Int) : ∀ m : Nat, pm (fun j => f j * g j) m = pm f m * pm g m
  | 0 => rfl
  | m + 1 => by
    show pm (fun j => f j * g j) m * (f m * g m) = pm f m * f m * (pm g m * g m)
    rw [pm_mul f g m]; grind
theorem pm_ones : ∀ m : Nat, pm (fun _ => 1) m = 1
  | 0 => rfl
  | m + 1 => by show pm (fun _ => 1) m * 1 = 1; rw [pm_ones m]; rfl
theorem pm_swap (f : Int → Int → Int) (a : Nat) : ∀ b : Nat, pm (fun i => pm (fun j => f i j) a) b = pm (fun j => pm (fun i => f i j) b) a
  | 0 => (pm_ones a).symm
  | b + 1 => by
    show pm (fun i => pm (fun j => f i j) a) b * pm (fun j => f b j) a = pm (fun j => pm (fun i => f i j) b * f b j) a
    rw [pm_mul, pm_swap f a b]
theorem pm_pick {a : Int → Int} {y : Int} : ∀ m : Nat, 0 ≤ y → y < m → pm (fun x => if y = x then a x else 1) m = a y
  | 0, h0, h1 => by omega
  | m + 1, h0, h1 => by
    show pm (fun x => if y = x then a x else 1) m * (if y = (m : Int) then a m else 1) = a y
    by_cases g : y = m
    · rw [if_pos g, pm_x (g := fun _ => 1) m (fun x x0 x1 => if_neg (by omega)), pm_ones, Int.one_mul, g]
    · rw [if_neg g, pm_pick m h0 (by omega), Int.mul_one]
theorem pm_head (f : Int → Int) : ∀ m : Nat, pm f (m + 1) = pm (fun j => f (j + 1)) m * f 0
  | 0 => by show 1 * f 0 = 1 * f 0; rfl
  | m + 1 => by
    show pm f (m + 1) * f ((m + 1 : Nat) : Int) = pm (fun j => f (j + 1)) m * f ((m : Int) + 1) * f 0
    rw [pm_head f m, show ((m + 1 : Nat) : Int) = (m : Int) + 1 by omega]; grind
/-- a word of numbers -/
def spr (a : Int → Int) (n : Int) : Nat → Int → Int
  | 0, _ => 1
  | d + 1, w => spr a n d (w / n) * a (w % n)
theorem wpr_1 {p n : Int} (v : Int → Int) : ∀ (d : Nat) (w : Int), wpr (fun x => rh 1 p (v x)) n d w = (spr v n d w, 0, 0, spr v n d w)
  | 0, w => rfl
  | d + 1, w => by
    show q2m (wpr (fun x => rh 1 p (v x)) n d (w / n)) (rh 1 p (v (w % n))) = (spr v n d (w / n) * v (w % n), 0, 0, spr v n d (w / n) * v (w % n))
    rw [wpr_1 v d (w / n), show rh 1 p (v (w % n)) = (v (w % n), 0, 0, v (w % n)) from if_pos rfl]
    apply q2x <;> simp only [q2m] <;> omega
theorem spr_pm {a : Int → Int} {n : Int} (hn : 0 ≤ n) : ∀ (d : Nat) (w : Int), spr a n d w = pm (fun j => a (w / n ^ j.toNat % n)) d
  | 0, w => rfl
  | d + 1, w => by
    show spr a n d (w / n) * a (w % n) = _
    rw [pm_head, spr_pm hn d (w / n)]
    show pm (fun j => a (w / n / n ^ j.toNat % n)) d * a (w % n) = pm (fun j => a (w / n ^ (j + 1).toNat % n)) d * a (w / n ^ (0 : Int).toNat % n)
    rw [show ((0 : Int)).toNat = 0 from rfl, Int.pow_zero, Int.ediv_one, pm_x d (fun j j0 j1 => by
      show a (w / n / n ^ j.toNat % n) = a (w / n ^ (j + 1).toNat % n)
      rw [show (j + 1).toNat = j.toNat + 1 by omega, Int.pow_succ, Int.mul_comm (n ^ j.toNat) n, Int.ediv_ediv_of_nonneg hn])]
def ioI (n D d w o c L j : Int) : Prop := (0 ≤ c ∧ 0 ≤ o ∧ o < n ^ c.toNat) ∧ c = sm (fun x => sm (fun y => if w / sW n D y % n = x then 1 else 0) d.toNat) L.toNat + sm (fun y => if w / sW n D y % n = L then 1 else 0) j.toNat ∧ ∀ a : Int → Int, spr a n c.toNat o = pm (fun x => pm (fun y => if w / sW n D y % n = x then a x else 1) d.toNat) L.toNat * pm (fun y => if w / sW n D y % n = L then a L else 1) j.toNat
section IOR
variable {n D d w p : Int}
theorem io_0 : ioI n D d w 0 0 0 0 := ⟨⟨by decide, by decide, by show (0 : Int) < n ^ (0 : Nat); rw [Int.pow_zero]; decide⟩, rfl, fun a => by show (1 : Int) = 1 * 1; rfl⟩
theorem io_no {o c L j : Int} (hj : 0 ≤ j) (h : ioI n D d w o c L j) (hx : ¬ w / sW n D j % n = L) : ioI n D d w o c L (j + 1) :=
  ⟨h.1, by rw [sm_s _ hj, if_neg hx, Int.add_zero]; exact h.2.1, fun a => by rw [pm_s _ hj, if_neg hx, Int.mul_one]; exact h.2.2 a⟩
theorem io_yes {o c L j : Int} (hL : 0 ≤ L ∧ L < n) (hj : 0 ≤ j) (h : ioI n D d w o c L j) (hx : w / sW n D j % n = L) : ioI n D d w (o * n + L) (c + 1) L (j + 1) := by
  obtain ⟨⟨h0, h1, h2⟩, h3, h4⟩ := h
  have q := dv_in (W := n) (n := n ^ c.toNat) (t := L) (y := o) hL.1 hL.2 h1 h2
  have e := dv_q (W := n) (y := o) hL.1 hL.2
  refine ⟨⟨by omega, q.1, ?_⟩, by rw [sm_s _ hj, if_pos hx, h3]; omega, fun a => ?_⟩
  · rw [show (c + 1).toNat = c.toNat + 1 by omega, Int.pow_succ, Int.mul_comm (n ^ c.toNat) n]; exact q.2
  · rw [pm_s _ hj, if_pos hx, show (c + 1).toNat = c.toNat + 1 by omega]
    show spr a n c.toNat ((o * n + L) / n) * a ((o * n + L) % n) = _
    rw [e.1, e.2, h4 a]; grind
theorem io_row {o c L j : Int} (hL : 0 ≤ L) (h : ioI n D d w o c L j) (hj : j = d) : ioI n D d w o c (L + 1) 0 :=
  ⟨h.1, by rw [sm_s _ hL, ← hj]; show c = _ + 0; rw [Int.add_zero]; rw [hj]; rw [← hj]; have := h.2.1; rw [hj] at this ⊢; exact this, fun a => by
    rw [pm_s _ hL]
    show spr a n c.toNat o = _ * 1
    rw [Int.mul_one]
    have := h.2.2 a
    rw [hj] at this
    exact this⟩
theorem io_fin {o c L : Int} (hO : sOk n D p) (hn : 0 < n) (hd : 0 ≤ d ∧ d ≤ D) (h : ioI n D d w o c L 0) (hL : L = n) : (0 ≤ o ∧ o < sW n D d) ∧ ∀ v : Int → Int, wpr (fun x => rh 1 p (v x)) n d.toNat o = wpr (fun x => rh 1 p (v x)) n d.toNat w := by
  obtain ⟨⟨h0, h1, h2⟩, h3, h4⟩ := h
  have hb : ∀ y, 0 ≤ w / sW n D y % n ∧ w / sW n D y % n < n := fun y => ⟨Int.emod_nonneg _ (by omega), Int.emod_lt_of_pos _ hn⟩
  have ec : c = d := by
    rw [h3, hL, sm_swap]
    show sm _ d.toNat + 0 = d
    rw [sm_ext (g := fun _ => 1) d.toNat (fun y _ _ => by
      rw [sm_ext (g := fun x => if x = w / sW n D y % n then 1 else 0) n.toNat (fun x _ _ => by
        by_cases g : w / sW n D y % n = x
        · rw [if_pos g, if_pos g.symm]
        · rw [if_neg g, if_neg (fun q => g q.symm)]), sm_one (k := w / sW n D y % n) n.toNat (hb y).1 (by have := (hb y).2; omega) (fun j _ _ g => if_neg g), if_pos rfl])]
    have e : ∀ m : Nat, sm (fun _ => 1) m = m := by
      intro m
      induction m with
      | zero => rfl
      | succ m ih => show sm (fun _ => 1) m + 1 = ((m + 1 : Nat) : Int); rw [ih]; omega
    rw [e]; omega
  subst ec
  refine ⟨⟨h1, by rw [sW_in hd.1 hd.2]; exact h2⟩, fun v => ?_⟩
  rw [wpr_1, wpr_1]
  have e : spr v n c.toNat o = spr v n c.toNat w := by
    rw [h4 v, hL, pm_swap]
    show pm _ c.toNat * 1 = _
    rw [Int.mul_one, spr_pm hO.1.1 c.toNat w]
    refine pm_x _ (fun y y0 y1 => ?_)
    show pm (fun x => if w / sW n D y % n = x then v x else 1) n.toNat = v (w / n ^ y.toNat % n)
    rw [pm_pick n.toNat (hb y).1 (by have := (hb y).2; omega), sW_in y0 (by omega)]
  rw [e]
end IOR
theorem row_up {p : Int} {F : Int → q2} {X : Int → Int} {a z c : Int} (hz : mE p z (X a + c)) : ∀ W : Nat, 0 ≤ a → a < W → q2E p (q2S (fun x => q2s (up X a z x) (F x)) W) (q2a (q2S (fun x => q2s (X x) (F x)) W) (q2s c (F a)))
  | 0, h0, h1 => by omega
  | W + 1, h0, h1 => by
    show q2E p (q2a (q2S (fun x => q2s (up X a z x) (F x)) W) (q2s (up X a z W) (F W))) (q2a (q2a (q2S (fun x => q2s (X x) (F x)) W) (q2s (X W) (F W))) (q2s c (F a)))
    by_cases g : a = W
    · have e : q2S (fun x => q2s (up X a z x) (F x)) W = q2S (fun x => q2s (X x) (F x)) W := q2S_x W (fun x _ _ => by rw [up_ne (by omega)])
      rw [e, ← g, up_eq]
      refine q2E_t (q2E_a (q2E_r p _) (q2E_c hz (q2E_r p _))) (q2E_of ?_)
      apply q2x <;> simp only [q2a, q2s] <;> grind
    · rw [up_ne (show (W : Int) ≠ a by omega)]
      refine q2E_t (q2E_a (row_up hz W h0 (by omega)) (q2E_r p _)) (q2E_of ?_)
      apply q2x <;> simp only [q2a] <;> omega
theorem row_z {F : Int → q2} {X : Int → Int} (W : Nat) (h : ∀ x : Int, 0 ≤ x → x < W → X x = 0) : q2S (fun x => q2s (X x) (F x)) W = q2O := by
  have e : ∀ m : Nat, q2S (fun _ => q2O) m = q2O := by
    intro m
    induction m with
    | zero => rfl
    | succ m ih => show q2a (q2S (fun _ => q2O) m) q2O = q2O; rw [ih]; rfl
  rw [q2S_x (g := fun _ => q2O) W (fun x a b => by
    rw [h x a b]
    apply q2x <;> simp only [q2s, q2O] <;> omega), e]
theorem i2b_of {x : Int} (h : 0 ≤ x ∧ x < 128) : en_i2b x = x := by
  unfold en_i2b
  rw [Int.bmod_def]
  split <;> omega
theorem row_0 {A F : q2} {c : Int} (h : c = 0) : A = q2a A (q2s c F) := by
  rw [h]
  apply q2x <;> simp only [q2a, q2s] <;> omega
theorem row_st {p : Int} {F : Int → q2} {X c : Int → Int} {W w a : Int} (hw : 0 ≤ w) (ha : 0 ≤ a ∧ a < W) (hF : q2E p (F a) (F w)) (h : q2E p (q2S (fun x => q2s (X x) (F x)) W.toNat) (q2S (fun x => q2s (c x) (F x)) w.toNat)) : q2E p (q2S (fun x => q2s (up X a ((X a + c w) % p) x) (F x)) W.toNat) (q2S (fun x => q2s (c x) (F x)) (w + 1).toNat) := by
  rw [q2S_s _ hw]
  exact q2E_t (row_up (c := c w) (mE_emod p _) W.toNat ha.1 (by omega)) (q2E_a h (q2E_c (mE_rfl p _) hF))
theorem rowb_up {p W a z : Int} {X : Int → Int} (hp : sPr p) (h : (∀ x, 0 ≤ x → x < W → X x < p) ∧ R97 X) : (∀ x, 0 ≤ x → x < W → up X a (z % p) x < p) ∧ R97 (up X a (z % p)) := by
  refine ⟨fun x x0 x1 => ?_, R97_up h.2 (d_97 hp z)⟩
  by_cases g : x = a
  · rw [g, up_eq]; exact (sR_lt hp).2
  · rw [up_ne g]; exact h.1 x x0 x1
