/-! ways that go on: closure, places on circles, the greatest chain of circles -/
def stB (L : Int → Int) (n D q u v : Int) : Nat → Bool
  | 0 => false
  | x + 1 => stB L n D q u v x || decide (stp L n D q u x = v)
def wsB (e : Int → Int → Bool) : Nat → Int → Int → Bool
  | 0, u, v => e u v
  | m + 1, u, v => wsB e m u v || (wsB e m u m && wsB e m m v)
theorem stB_s {L : Int → Int} {n D q u v x : Int} (h : 0 ≤ x) : stB L n D q u v (x + 1).toNat = (stB L n D q u v x.toNat || decide (stp L n D q u x = v)) := by
  rw [show (x + 1).toNat = x.toNat + 1 by omega]
  show (stB L n D q u v x.toNat || decide (stp L n D q u (x.toNat : Int) = v)) = _
  rw [show ((x.toNat : Nat) : Int) = x by omega]
theorem stB_ex {L : Int → Int} {n D q u v : Int} : ∀ m : Nat, stB L n D q u v m = true ↔ ∃ x : Int, 0 ≤ x ∧ x < m ∧ stp L n D q u x = v
  | 0 => Iff.intro (fun h => absurd h (by show ¬ false = true; decide)) (fun ⟨x, h1, h2, _⟩ => by omega)
  | m + 1 => by
    show (stB L n D q u v m || decide (stp L n D q u m = v)) = true ↔ _
    rw [Bool.or_eq_true, decide_eq_true_iff, stB_ex m]
    constructor
    · rintro (⟨x, h1, h2, h3⟩ | h)
      · exact ⟨x, h1, by omega, h3⟩
      · exact ⟨m, by omega, by omega, h⟩
    · rintro ⟨x, h1, h2, h3⟩
      by_cases g : x = m
      · rw [g] at h3; exact .inr h3
      · exact .inl ⟨x, h1, by omega, h3⟩
theorem wsB_s {e : Int → Int → Bool} {m u v : Int} (h : 0 ≤ m) : wsB e (m + 1).toNat u v = (wsB e m.toNat u v || (wsB e m.toNat u m && wsB e m.toNat m v)) := by
  rw [show (m + 1).toNat = m.toNat + 1 by omega]
  show (wsB e m.toNat u v || (wsB e m.toNat u (m.toNat : Int) && wsB e m.toNat (m.toNat : Int) v)) = _
  rw [show ((m.toNat : Nat) : Int) = m by omega]
theorem wsB_i {e : Int → Int → Bool} {m : Nat} {u v : Int} : wsB e (m + 1) u v = true ↔ wsB e m u v = true ∨ (wsB e m u m = true ∧ wsB e m m v = true) := by
  show (wsB e m u v || (wsB e m u m && wsB e m m v)) = true ↔ _
  rw [Bool.or_eq_true, Bool.and_eq_true]
theorem wsB_e {e : Int → Int → Bool} {u v : Int} (h : e u v = true) : ∀ m : Nat, wsB e m u v = true
  | 0 => h
  | m + 1 => wsB_i.mpr (.inl (wsB_e h m))
theorem wsB_tr {e : Int → Int → Bool} : ∀ (k : Nat) (c : Int), 0 ≤ c → c < k → ∀ u v, wsB e k u c = true → wsB e k c v = true → wsB e k u v = true
  | 0, c, h0, h1 => by omega
  | k + 1, c, h0, h1 => by
    intro u v h2 h3
    have ih := wsB_tr (e := e) k
    rw [wsB_i] at h2 h3 ⊢
    by_cases g : c = k
    · subst g
      rcases h2 with h2 | h2 <;> rcases h3 with h3 | h3
      · exact .inr ⟨h2, h3⟩
      · exact .inr ⟨h2, h3.2⟩
      · exact .inr ⟨h2.1, h3⟩
      · exact .inr ⟨h2.1, h3.2⟩
    · have hc : c < (k : Int) := by omega
      rcases h2 with h2 | h2 <;> rcases h3 with h3 | h3
      · exact .inl (ih c h0 hc u v h2 h3)
      · exact .inr ⟨ih c h0 hc u k h2 h3.1, h3.2⟩
      · exact .inr ⟨h2.1, ih c h0 hc k v h2.2 h3⟩
      · exact .inr ⟨h2.1, h3.2⟩
def gT (L : Int → Int) (n D q : Int) : Int → Int → Bool := wsB (fun u v => stB L n D q u v n.toNat) (sW n D q).toNat
def trT (T : Int → Int → Bool) (N : Int) : Prop := ∀ a b c, 0 ≤ b → b < N → T a b = true → T b c = true → T a c = true
theorem gT_tr (L : Int → Int) (n D q : Int) : trT (gT L n D q) (sW n D q) := fun a b c h0 h1 h2 h3 => wsB_tr _ b h0 (by omega) a c h2 h3
theorem gT_e {L : Int → Int} {n D q u x : Int} (hx : 0 ≤ x ∧ x < n) : gT L n D q u (stp L n D q u x) = true := wsB_e (by exact (stB_ex _).mpr ⟨x, hx.1, by omega, rfl⟩) _
def mx (f : Int → Int) : Nat → Int
  | 0 => 0
  | k + 1 => max (mx f k) (f k)
theorem mx_s {f : Int → Int} {k : Int} (h : 0 ≤ k) : mx f (k + 1).toNat = max (mx f k.toNat) (f k) := by
  rw [show (k + 1).toNat = k.toNat + 1 by omega]
  show max (mx f k.toNat) (f ((k.toNat : Nat) : Int)) = _
  rw [show ((k.toNat : Nat) : Int) = k by omega]
theorem mx_nn (f : Int → Int) : ∀ m : Nat, 0 ≤ mx f m
  | 0 => Int.le_refl 0
  | m + 1 => by have := mx_nn f m; show 0 ≤ max (mx f m) (f m); omega
theorem mx_ge {f : Int → Int} : ∀ (m : Nat) (v : Int), 0 ≤ v → v < m → f v ≤ mx f m
  | 0, v, h0, h1 => by omega
  | m + 1, v, h0, h1 => by
    show f v ≤ max (mx f m) (f m)
    by_cases g : v = m
    · rw [g]; omega
    · have := mx_ge (f := f) m v h0 (by omega); omega
theorem mx_le {f : Int → Int} {B : Int} (hB : 0 ≤ B) : ∀ m : Nat, (∀ v : Int, 0 ≤ v → v < m → f v ≤ B) → mx f m ≤ B
  | 0, _ => hB
  | m + 1, h => by
    have h1 := mx_le hB m (fun v a b => h v a (by omega))
    have h2 := h m (by omega) (by omega)
    show max (mx f m) (f m) ≤ B
    omega
theorem mx_at (f : Int → Int) : ∀ m : Nat, mx f m = 0 ∨ ∃ v : Int, 0 ≤ v ∧ v < m ∧ mx f m = f v
  | 0 => .inl rfl
  | m + 1 => by
    show max (mx f m) (f m) = 0 ∨ ∃ v : Int, 0 ≤ v ∧ v < ((m + 1 : Nat) : Int) ∧ max (mx f m) (f m) = f v
    by_cases g : mx f m ≤ f m
    · exact .inr ⟨m, by omega, by omega, by omega⟩
    · rcases mx_at f m with h | ⟨v, h0, h1, h2⟩
      · exact .inl (by omega)
      · exact .inr ⟨v, h0, by omega, by omega⟩
theorem mx_ext {f g : Int → Int} : ∀ m : Nat, (∀ v : Int, 0 ≤ v → v < m → f v = g v) → mx f m = mx g m
  | 0, _ => rfl
  | m + 1, h => by
    show max (mx f m) (f m) = max (mx g m) (g m)
    rw [mx_ext m (fun v a b => h v a (by omega)), h m (by omega) (by omega)]
theorem sm_lt {f g : Int → Int} : ∀ m : Nat, (∀ j : Int, 0 ≤ j → j < m → f j ≤ g j) → sm f m ≤ sm g m ∧ ∀ k : Int, 0 ≤ k → k < m → f k < g k → sm f m < sm g m
  | 0, _ => ⟨Int.le_refl 0, fun k a b => by omega⟩
  | m + 1, h => by
    have h1 := sm_lt m (fun j a b => h j a (by omega))
    have h2 := h m (by omega) (by omega)
    refine ⟨?_, fun k a b c => ?_⟩
    · show sm f m + f m ≤ sm g m + g m
      omega
    · show sm f m + f m < sm g m + g m
      by_cases e : k = m
      · rw [e] at c; omega
      · have := h1.2 k a (by omega) c; omega
section GRH
variable {T : Int → Int → Bool} {N : Nat}
/-- how many places can be reached -/
def cn (T : Int → Int → Bool) (N : Nat) (w : Int) : Int := sm (fun v => bI (T w v = true)) N
theorem cn_b (T : Int → Int → Bool) (N : Nat) (w : Int) : 0 ≤ cn T N w ∧ cn T N w ≤ N := sm_01 (fun x => bI_01' _) N
theorem cn_lt (hT : trT T N) {w v : Int} (hw : 0 ≤ w ∧ w < N) (hv : 0 ≤ v ∧ v < N) (h1 : T w w = true) (h2 : T w v = true) (h3 : ¬ T v w = true) : cn T N v < cn T N w := by
  refine (sm_lt N (fun j a b => ?_)).2 w hw.1 hw.2 ?_
  · show bI (T v j = true) ≤ bI (T w j = true)
    by_cases g : T v j = true
    · rw [bI_t g, bI_t (hT w v j hv.1 hv.2 h2 g)]; omega
    · rw [bI_f g]; exact bI_nn _
  · show bI (T v w = true) < bI (T w w = true)
    rw [bI_f h3, bI_t h1]; decide
theorem cn_1 {w : Int} (hw : 0 ≤ w ∧ w < N) (h1 : T w w = true) : 1 ≤ cn T N w := by
  have h := (sm_lt (f := fun _ => 0) (g := fun v => bI (T w v = true)) N (fun j _ _ => bI_nn _)).2 w hw.1 hw.2 (by show 0 < bI (T w w = true); rw [bI_t h1]; decide)
  rw [sm_zero N (fun _ _ _ => rfl)] at h
  exact h
/-- the length of the longest chain of circles that begins there -/
def hN (T : Int → Int → Bool) (N : Nat) : Nat → Int → Int
  | 0, _ => 0
  | k + 1, w => if T w w = true then 1 + mx (fun v => if T v v = true ∧ T w v = true ∧ ¬ T v w = true then hN T N k v else 0) N else 0
theorem hN_fuel (hT : trT T N) : ∀ (k k' : Nat) (w : Int), 0 ≤ w → w < N → cn T N w ≤ k → k ≤ k' → hN T N k' w = hN T N k w
  | 0, k', w, h0, h1, h2, h3 => by
    have hoff : ¬ T w w = true := fun g => by have := cn_1 ⟨h0, h1⟩ g; omega
    cases k' with
    | zero => rfl
    | succ k' => exact if_neg hoff
  | k + 1, 0, w, h0, h1, h2, h3 => by omega
  | k + 1, k' + 1, w, h0, h1, h2, h3 => by
    show (if T w w = true then 1 + mx (fun v => if T v v = true ∧ T w v = true ∧ ¬ T v w = true then hN T N k' v else 0) N else 0) = (if T w w = true then 1 + mx (fun v => if T v v = true ∧ T w v = true ∧ ¬ T v w = true then hN T N k v else 0) N else 0)
    by_cases g : T w w = true
    · rw [if_pos g, if_pos g, mx_ext N (fun v a b => ?_)]
      show (if T v v = true ∧ T w v = true ∧ ¬ T v w = true then hN T N k' v else 0) = (if T v v = true ∧ T w v = true ∧ ¬ T v w = true then hN T N k v else 0)
      by_cases c : T v v = true ∧ T w v = true ∧ ¬ T v w = true
      · rw [if_pos c, if_pos c]
        have := cn_lt hT ⟨h0, h1⟩ ⟨a, b⟩ g c.2.1 c.2.2
        exact hN_fuel hT k k' v a b (by omega) (by omega)
      · rw [if_neg c, if_neg c]
    · rw [if_neg g, if_neg g]
theorem hN_b (hT : trT T N) : ∀ (k : Nat) (w : Int), 0 ≤ w → w < N → 0 ≤ hN T N k w ∧ hN T N k w ≤ cn T N w
  | 0, w, h0, h1 => ⟨Int.le_refl 0, (cn_b T N w).1⟩
  | k + 1, w, h0, h1 => by
    show 0 ≤ (if T w w = true then 1 + mx (fun v => if T v v = true ∧ T w v = true ∧ ¬ T v w = true then hN T N k v else 0) N else 0) ∧ (if T w w = true then 1 + mx (fun v => if T v v = true ∧ T w v = true ∧ ¬ T v w = true then hN T N k v else 0) N else 0) ≤ cn T N w
    by_cases g : T w w = true
    · rw [if_pos g]
      have h2 := mx_nn (fun v => if T v v = true ∧ T w v = true ∧ ¬ T v w = true then hN T N k v else 0) N
      have h3 := cn_1 ⟨h0, h1⟩ g
      have h4 := mx_le (f := fun v => if T v v = true ∧ T w v = true ∧ ¬ T v w = true then hN T N k v else 0) (B := cn T N w - 1) (by omega) N (fun v a b => by
        show (if T v v = true ∧ T w v = true ∧ ¬ T v w = true then hN T N k v else 0) ≤ _
        by_cases c : T v v = true ∧ T w v = true ∧ ¬ T v w = true
        · rw [if_pos c]
          have := cn_lt hT ⟨h0, h1⟩ ⟨a, b⟩ g c.2.1 c.2.2
          have := (hN_b hT k v a b).2
          omega
        · rw [if_neg c]; omega)
      omega
    · rw [if_neg g]
      exact ⟨Int.le_refl 0, (cn_b T N w).1⟩
def hT (T : Int → Int → Bool) (N : Nat) (w : Int) : Int := hN T N N w
theorem h_eq (h : trT T N) {w : Int} (h0 : 0 ≤ w) (h1 : w < N) : hT T N w = if T w w = true then 1 + mx (fun v => if T v v = true ∧ T w v = true ∧ ¬ T v w = true then hT T N v else 0) N else 0 := by
  unfold hT
  rw [← hN_fuel h N (N + 1) w h0 h1 (cn_b T N w).2 (by omega)]
  rfl
theorem h_b (h : trT T N) {w : Int} (h0 : 0 ≤ w) (h1 : w < N) : 0 ≤ hT T N w ∧ hT T N w ≤ N := by
  have := hN_b h N w h0 h1
  have := cn_b T N w
  unfold hT; omega
theorem h_off (h : trT T N) {w : Int} (h0 : 0 ≤ w) (h1 : w < N) (g : ¬ T w w = true) : hT T N w = 0 := by rw [h_eq h h0 h1, if_neg g]
theorem h_on (h : trT T N) {w : Int} (h0 : 0 ≤ w) (h1 : w < N) (g : T w w = true) : 1 ≤ hT T N w := by
  rw [h_eq h h0 h1, if_pos g]
  have := mx_nn (fun v => if T v v = true ∧ T w v = true ∧ ¬ T v w = true then hT T N v else 0) N
  omega
theorem h_gt (h : trT T N) {w v : Int} (hw : 0 ≤ w ∧ w < N) (hv : 0 ≤ v ∧ v < N) (h1 : T w w = true) (h2 : T v v = true) (h3 : T w v = true) (h4 : ¬ T v w = true) : hT T N v + 1 ≤ hT T N w := by
  rw [h_eq h hw.1 hw.2, if_pos h1]
  have := mx_ge (f := fun v => if T v v = true ∧ T w v = true ∧ ¬ T v w = true then hT T N v else 0) N v hv.1 hv.2
  rw [if_pos ⟨h2, h3, h4⟩] at this
  omega
theorem h_ex (h : trT T N) {w : Int} (hw : 0 ≤ w ∧ w < N) (h1 : T w w = true) : hT T N w = 1 ∨ ∃ v : Int, (0 ≤ v ∧ v < N) ∧ T v v = true ∧ T w v = true ∧ ¬ T v w = true ∧ hT T N w = hT T N v + 1 := by
  rw [h_eq h hw.1 hw.2, if_pos h1]
  rcases mx_at (fun v => if T v v = true ∧ T w v = true ∧ ¬ T v w = true then hT T N v else 0) N with e | ⟨v, a, b, e⟩
  · exact .inl (by omega)
  · by_cases c : T v v = true ∧ T w v = true ∧ ¬ T v w = true
    · rw [if_pos c] at e
      exact .inr ⟨v, ⟨a, b⟩, c.1, c.2.1, c.2.2, by omega⟩
    · rw [if_neg c] at e
      exact .inl (by omega)
theorem h_same (h : trT T N) {u v : Int} (hu : 0 ≤ u ∧ u < N) (hv : 0 ≤ v ∧ v < N) (h1 : T u v = true) (h2 : T v u = true) : hT T N u = hT T N v := by
  have huu := h u v u hv.1 hv.2 h1 h2
  have hvv := h v u v hu.1 hu.2 h2 h1
  rw [h_eq h hu.1 hu.2, h_eq h hv.1 hv.2, if_pos huu, if_pos hvv, mx_ext N (fun x a b => ?_)]
  show (if T x x = true ∧ T u x = true ∧ ¬ T x u = true then hT T N x else 0) = (if T x x = true ∧ T v x = true ∧ ¬ T x v = true then hT T N x else 0)
  by_cases c : T x x = true ∧ T u x = true ∧ ¬ T x u = true
  · rw [if_pos c, if_pos ⟨c.1, h v u x hu.1 hu.2 h2 c.2.1, fun g => c.2.2 (h x v u hv.1 hv.2 g h2)⟩]
  · rw [if_neg c, if_neg (fun d => c ⟨d.1, h u v x hv.1 hv.2 h1 d.2.1, fun g => d.2.2 (h x u v hu.1 hu.2 g h1)⟩)]
end GRH
