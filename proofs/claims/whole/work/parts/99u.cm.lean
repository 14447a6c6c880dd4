/-! the closure, step by step, whatever holds it -/
section CMG
variable {L : Int → Int} {n D q N : Int} {e : Int → Int → Bool} {G G' : Int → Int → Bool}
def cG1 (L : Int → Int) (n D q N : Int) (G : Int → Int → Bool) (w : Int) : Prop := ∀ a b, 0 ≤ a → a < w → 0 ≤ b → b < N → G a b = stB L n D q a b n.toNat
def cG2 (L : Int → Int) (n D q N : Int) (G : Int → Int → Bool) (w x : Int) : Prop := ∀ b, 0 ≤ b → b < N → G w b = stB L n D q w b x.toNat
theorem cG_hit {w x to : Int} (hx : 0 ≤ x) (hto : stp L n D q w x = to) (hG : ∀ a b, 0 ≤ a → a ≤ w → 0 ≤ b → b < N → G' a b = if a = w ∧ b = to then true else G a b) (hw : 0 ≤ w) (h1 : cG1 L n D q N G w) (h2 : cG2 L n D q N G w x) : cG1 L n D q N G' w ∧ cG2 L n D q N G' w (x + 1) := by
  refine ⟨fun a b a0 a1 b0 b1 => ?_, fun b b0 b1 => ?_⟩
  · rw [hG a b a0 (by omega) b0 b1, if_neg (by omega)]; exact h1 a b a0 a1 b0 b1
  · rw [hG w b hw (Int.le_refl w) b0 b1, stB_s hx, hto, ← h2 b b0 b1]
    by_cases g : b = to
    · rw [if_pos ⟨rfl, g⟩, decide_eq_true g.symm, Bool.or_true]
    · rw [if_neg (fun c => g c.2), decide_eq_false (fun c => g c.symm), Bool.or_false]
theorem cG_no {w x : Int} (hx : 0 ≤ x) (hto : stp L n D q w x < 0) (h2 : cG2 L n D q N G w x) : cG2 L n D q N G w (x + 1) := fun b b0 b1 => by
  rw [stB_s hx, ← h2 b b0 b1, decide_eq_false (by omega), Bool.or_false]
theorem cG_row {w x : Int} (h1 : cG1 L n D q N G w) (h2 : cG2 L n D q N G w x) (hx : x = n) : cG1 L n D q N G (w + 1) := fun a b a0 a1 b0 b1 => by
  by_cases g : a = w
  · rw [g, h2 b b0 b1, hx]
  · exact h1 a b a0 (by omega) b0 b1
theorem cG_new {w : Int} (h : ∀ b, 0 ≤ b → b < N → G w b = false) : cG2 L n D q N G w 0 := fun b b0 b1 => h b b0 b1
theorem cG_c {w : Int} (h1 : cG1 L n D q N G w) (hG : ∀ a b, 0 ≤ a → a < w → 0 ≤ b → b < N → G' a b = G a b) : cG1 L n D q N G' w := fun a b a0 a1 b0 b1 => by rw [hG a b a0 a1 b0 b1]; exact h1 a b a0 a1 b0 b1
def wG (e : Int → Int → Bool) (N : Int) (G : Int → Int → Bool) (m u v : Int) : Prop := ∀ a b, 0 ≤ a → a < N → 0 ≤ b → b < N → G a b = wsB e (if a < u ∨ (a = u ∧ b < v) then (m + 1).toNat else m.toNat) a b
theorem wG_0 {w : Int} (h : cG1 L n D q N G w) (hw : w = N) : wG (fun u v => stB L n D q u v n.toNat) N G 0 0 0 := fun a b a0 a1 b0 b1 => by
  rw [if_neg (by omega)]
  exact h a b a0 (by omega) b0 b1
theorem ws_mm {m v : Int} (hm : 0 ≤ m) : wsB e (m + 1).toNat m v = wsB e m.toNat m v := by
  rw [wsB_s hm]
  cases wsB e m.toNat m v <;> cases wsB e m.toNat m m <;> rfl
theorem ws_um {m u : Int} (hm : 0 ≤ m) : wsB e (m + 1).toNat u m = wsB e m.toNat u m := by
  rw [wsB_s hm]
  cases wsB e m.toNat u m <;> cases wsB e m.toNat m m <;> rfl
theorem wG_m {m u v b : Int} (h : wG e N G m u v) (hm : 0 ≤ m ∧ m < N) (hb : 0 ≤ b ∧ b < N) : G m b = wsB e m.toNat m b := by
  rw [h m b hm.1 hm.2 hb.1 hb.2]
  split
  · exact ws_mm hm.1
  · rfl
theorem wG_u {m u v a : Int} (h : wG e N G m u v) (hm : 0 ≤ m ∧ m < N) (ha : 0 ≤ a ∧ a < N) : G a m = wsB e m.toNat a m := by
  rw [h a m ha.1 ha.2 hm.1 hm.2]
  split
  · exact ws_um hm.1
  · rfl
/-- one cell set, or not -/
theorem wG_hit {m u v : Int} (h : wG e N G m u v) (hm : 0 ≤ m ∧ m < N) (hu : 0 ≤ u ∧ u < N) (hv : 0 ≤ v ∧ v < N) (h1 : G u m = true) (h2 : G m v = true) (hG : ∀ a b, 0 ≤ a → a < N → 0 ≤ b → b < N → G' a b = if a = u ∧ b = v then true else G a b) : wG e N G' m u (v + 1) := fun a b a0 a1 b0 b1 => by
  rw [hG a b a0 a1 b0 b1]
  by_cases g : a = u ∧ b = v
  · rw [if_pos g, if_pos (by omega), g.1, g.2, wsB_s hm.1, ← wG_u h hm hu, ← wG_m h hm hv, h1, h2]
    cases wsB e m.toNat u v <;> rfl
  · rw [if_neg g, h a b a0 a1 b0 b1]
    by_cases c : a < u ∨ (a = u ∧ b < v)
    · rw [if_pos c, if_pos (by omega)]
    · rw [if_neg c, if_neg (by omega)]
theorem wG_no {m u v : Int} (h : wG e N G m u v) (hm : 0 ≤ m ∧ m < N) (hu : 0 ≤ u ∧ u < N) (hv : 0 ≤ v ∧ v < N) (h2 : ¬ G m v = true) : wG e N G m u (v + 1) := fun a b a0 a1 b0 b1 => by
  have h3 := h a b a0 a1 b0 b1
  by_cases g : a = u ∧ b = v
  · rw [if_neg (by omega)] at h3
    rw [if_pos (by omega), h3, g.1, g.2, wsB_s hm.1, ← wG_m h hm hv]
    cases e9 : G m v
    · rw [Bool.and_false, Bool.or_false]
    · exact absurd e9 h2
  · rw [h3]
    by_cases c : a < u ∨ (a = u ∧ b < v)
    · rw [if_pos c, if_pos (by omega)]
    · rw [if_neg c, if_neg (by omega)]
theorem wG_skip {m u : Int} (h : wG e N G m u 0) (hm : 0 ≤ m ∧ m < N) (hu : 0 ≤ u ∧ u < N) (h1 : ¬ G u m = true) : wG e N G m (u + 1) 0 := fun a b a0 a1 b0 b1 => by
  have h3 := h a b a0 a1 b0 b1
  by_cases g : a = u
  · rw [if_neg (by omega)] at h3
    rw [if_pos (by omega), h3, g, wsB_s hm.1, ← wG_u h hm hu]
    cases e9 : G u m
    · rw [Bool.false_and, Bool.or_false]
    · exact absurd e9 h1
  · rw [h3]
    by_cases c : a < u ∨ (a = u ∧ b < 0)
    · rw [if_pos c, if_pos (by omega)]
    · rw [if_neg c, if_neg (by omega)]
theorem wG_row {m u v : Int} (h : wG e N G m u v) (hv : N ≤ v) : wG e N G m (u + 1) 0 := fun a b a0 a1 b0 b1 => by
  rw [h a b a0 a1 b0 b1]
  by_cases c : a < u + 1
  · rw [if_pos (by omega), if_pos (.inl c)]
  · rw [if_neg (by omega), if_neg (by omega)]
theorem wG_next {m u : Int} (h : wG e N G m u 0) (hu : N ≤ u) : wG e N G (m + 1) 0 0 := fun a b a0 a1 b0 b1 => by
  rw [h a b a0 a1 b0 b1, if_pos (by omega), if_neg (by omega)]
/-- a whole row at once -/
theorem wG_or {m u : Int} (h : wG e N G m u 0) (hm : 0 ≤ m ∧ m < N) (hu : 0 ≤ u ∧ u < N) (h1 : G u m = true) (hG : ∀ a b, 0 ≤ a → a < N → 0 ≤ b → b < N → G' a b = if a = u then (G u b || G m b) else G a b) : wG e N G' m (u + 1) 0 := fun a b a0 a1 b0 b1 => by
  rw [hG a b a0 a1 b0 b1]
  by_cases g : a = u
  · have h3 := h u b hu.1 hu.2 b0 b1
    rw [if_neg (by omega)] at h3
    rw [if_pos g, if_pos (by omega), g, wsB_s hm.1, h3, wG_m h hm ⟨b0, b1⟩, ← wG_u h hm hu, h1, Bool.true_and]
  · rw [if_neg g, h a b a0 a1 b0 b1]
    by_cases c : a < u ∨ (a = u ∧ b < 0)
    · rw [if_pos c, if_pos (by omega)]
    · rw [if_neg c, if_neg (by omega)]
theorem wG_fin {m : Int} (h : wG (fun u v => stB L n D q u v n.toNat) N G m 0 0) (hm : m = N) (hN : N = sW n D q) : ∀ a b, 0 ≤ a → a < N → 0 ≤ b → b < N → G a b = gT L n D q a b := fun a b a0 a1 b0 b1 => by
  rw [h a b a0 a1 b0 b1, if_neg (by omega), hm, hN]
  rfl
end CMG
/-- the model's cells -/
def mG (X : Int → Int) (a b : Int) : Bool := decide (X (256 * a + b) = 1)
theorem mG_up {X : Int → Int} {N u v : Int} (hN : N ≤ 256) (hv : 0 ≤ v ∧ v < N) : ∀ a b, 0 ≤ b → b < N → mG (up X (256 * u + v) 1) a b = if a = u ∧ b = v then true else mG X a b := fun a b b0 b1 => by
  unfold mG
  rw [up_ix (by omega) (by omega)]
  by_cases g : a = u ∧ b = v
  · rw [if_pos g, if_pos g]; rfl
  · rw [if_neg g, if_neg g]
theorem mG_t {X : Int → Int} {a b : Int} (h : R01 X) (g : ¬ X (256 * a + b) = 0) : mG X a b = true := decide_eq_true (by have := h (256 * a + b); omega)
theorem mG_f {X : Int → Int} {a b : Int} (g : X (256 * a + b) = 0) : ¬ mG X a b = true := fun h => by have := of_decide_eq_true h; omega
theorem mG_v {X : Int → Int} {a b : Int} (h : R01 X) : X (256 * a + b) = bI (mG X a b = true) := by
  rcases h (256 * a + b) with e | e
  · rw [bI_f (mG_f e), e]
  · rw [bI_t (mG_t h (by omega)), e]
