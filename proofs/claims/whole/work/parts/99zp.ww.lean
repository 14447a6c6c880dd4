/-! the ways with a first square, one behind the other, many left out at once -/
def lnA (LN : Int → Int) (m i : Int) : Int := if 0 ≤ i ∧ i < m then LN i else 0
def lwZ (s p n D : Int) (LN : Int → Int) (m : Int) (LR V : Int → Int) (i : Int) : Prop := q2z p (lvl (fun x => rh s p (V x)) n (sW n D (lnA LN m i)) (lnA LN m i).toNat (fun w => LR (i * 256 + w)))
def tmL (s p n D : Int) (TS TH TL LE LT LN : Int → Int) (m : Int) (LR : Int → Int) : Prop := ∀ i, 0 ≤ i → i < 8 → tmA s p n D TS TH TL LE LT (lnA LN m i) (fun w => LR (i * 256 + w)) i
/-- the ways so far as a number -/
def trk (S f : Int) : Nat → (Int → Int) → Int
  | 0, _ => 0
  | j + 1, v => trk S f j v * S + v (f + 1 + j)
section WWC
variable {s p n D f k : Int} {TS TH TL LE LT LN LR : Int → Int} {m : Int}
noncomputable def HWc (s p n D : Int) (LN : Int → Int) (m : Int) (LR : Int → Int) : (Int → Int) → Int := HW s p n D LN (fun i w => LR (i * 256 + w)) m.toNat
noncomputable def NwC (s p n D : Int) (LN : Int → Int) (m : Int) (LR : Int → Int) (f k : Int) : Int := Nw s p n D LN (fun i w => LR (i * 256 + w)) m.toNat f k
theorem HWc_x (hn : 0 < n) : hxt n (HWc s p n D LN m LR) := HW_x hn
theorem lnA_in {i : Int} (h : 0 < lnA LN m i) : (0 ≤ i ∧ i < m) ∧ lnA LN m i = LN i := by
  unfold lnA at h ⊢
  by_cases g : 0 ≤ i ∧ i < m
  · rw [if_pos g]; exact ⟨g, rfl⟩
  · rw [if_neg g] at h; omega
theorem HW_1 (hm : 0 ≤ m ∧ m ≤ 8) (hA : tmL s p n D TS TH TL LE LT LN m LR) {V : Int → Int} (h : ∀ i, 0 ≤ i → i < 8 → 0 ≤ LT i → lwZ s p n D LN m LR V i) : HWc s p n D LN m LR V = 1 := by
  refine alH_t ((alw_iff _).mpr (fun i a b c => ?_))
  have e : lnA LN m i = LN i := if_pos ⟨a, by omega⟩
  have q : lwZ s p n D LN m LR V i := by
    by_cases g : 0 ≤ LT i
    · exact h i a (by omega) g
    · exact tmA_no (hA i a (by omega)) (by rw [e]; exact c) (by omega) V
  unfold lwZ at q
  rw [e] at q
  exact q
theorem HW_0 (hA : tmL s p n D TS TH TL LE LT LN m LR) {V : Int → Int} {i : Int} (hi : 0 ≤ i ∧ i < 8) (ht : 0 ≤ LT i) (hz : ¬ lwZ s p n D LN m LR V i) {U : Int → Int} (hU : ∀ x, 0 ≤ x → x ≤ LT i → U x = V x) : HWc s p n D LN m LR U = 0 := by
  refine alH_f (fun g => hz ?_)
  have hl : 0 < lnA LN m i := by have := (hA i hi.1 hi.2).2.2.1 ht; omega
  have hin := lnA_in hl
  have q := (alw_iff _).mp g i hin.1.1 (by omega) (by rw [← hin.2]; exact hl)
  refine tmA_dep (hA i hi.1 hi.2) hl (v := U) (fun x a b => hU x a b) ?_
  rw [hin.2]
  exact q
def wwP (s p n D : Int) (LT LN : Int → Int) (m : Int) (LR : Int → Int) (f k : Int) (V : Int → Int) (c g t : Int) : Prop := (f ≤ g ∧ g ≤ n - 1) ∧ (∀ x, 0 ≤ x → x < n → 0 ≤ V x ∧ V x < sqN s p) ∧ (∀ x, 0 ≤ x → x < f → V x = 0) ∧ V f = k ∧ (∀ x, g < x → x < n → V x = 0) ∧ c + rq (sqN s p) n (HWc s p n D LN m LR) f (g - f).toNat V + cq (sqN s p) n (HWc s p n D LN m LR) g V = NwC s p n D LN m LR f k ∧ t ≤ trk (sqN s p) f (g - f).toNat V * sqN s p ^ (n - 1 - g).toNat ∧ ∀ i, 0 ≤ i → i < 8 → 0 ≤ LT i → LT i < g → lwZ s p n D LN m LR V i
def wwQ (s p n D : Int) (LT LN : Int → Int) (m : Int) (LR : Int → Int) (f k : Int) (V : Int → Int) (c a t : Int) : Prop := (f ≤ a ∧ a ≤ n - 1) ∧ (∀ x, 0 ≤ x → x < n → 0 ≤ V x ∧ V x < sqN s p) ∧ (∀ x, 0 ≤ x → x < f → V x = 0) ∧ V f = k ∧ (∀ x, a < x → x < n → V x = 0) ∧ c + rq (sqN s p) n (HWc s p n D LN m LR) f (a - f).toNat V = NwC s p n D LN m LR f k ∧ t + 1 ≤ (trk (sqN s p) f (a - f).toNat V + 1) * sqN s p ^ (n - 1 - a).toNat ∧ ∀ i, 0 ≤ i → i < 8 → 0 ≤ LT i → LT i < a → lwZ s p n D LN m LR V i
theorem trk_x {S : Int} : ∀ (j : Nat) (v u : Int → Int), (∀ x, f < x → x ≤ f + j → v x = u x) → trk S f j v = trk S f j u
  | 0, _, _, _ => rfl
  | j + 1, v, u, h => by
    show trk S f j v * S + v (f + 1 + j) = trk S f j u * S + u (f + 1 + j)
    rw [trk_x j v u (fun x a b => h x a (by omega)), h (f + 1 + j) (by omega) (by omega)]
theorem trk_b {S : Int} (hS : 1 ≤ S) : ∀ (j : Nat) (v : Int → Int), (∀ x, f < x → x ≤ f + j → 0 ≤ v x ∧ v x < S) → 0 ≤ trk S f j v ∧ trk S f j v < S ^ j
  | 0, _, _ => ⟨Int.le_refl 0, by show (0 : Int) < S ^ (0 : Nat); rw [Int.pow_zero]; decide⟩
  | j + 1, v, h => by
    have ih := trk_b hS j v (fun x a b => h x a (by omega))
    have hj := h (f + 1 + j) (by omega) (by omega)
    show 0 ≤ trk S f j v * S + v (f + 1 + j) ∧ trk S f j v * S + v (f + 1 + j) < S ^ (j + 1)
    rw [Int.pow_succ]
    exact dg_b (by omega) ih hj
/-- further down where all is nought -/
theorem ww_down {S : Int} {H : (Int → Int) → Int} (hS : 0 < S) {c t : Int} {V : Int → Int} (hf : 0 ≤ f) : ∀ (d : Nat) (g : Int), f ≤ g → g + d ≤ n - 1 → (∀ x, g < x → x ≤ g + d → V x = 0) → c + rq S n H f (g - f).toNat V + cq S n H g V = k → t ≤ trk S f (g - f).toNat V * S ^ (n - 1 - g).toNat → c + rq S n H f (g + d - f).toNat V + cq S n H (g + d) V = k ∧ t ≤ trk S f (g + d - f).toNat V * S ^ (n - 1 - (g + d)).toNat
  | 0, g, _, _, _, h1, h2 => by
    rw [show g + ((0 : Nat) : Int) = g by omega]; exact ⟨h1, h2⟩
  | d + 1, g, a1, a2, a3, h1, h2 => by
    have e := ww_down hS (c := c) (t := t) (V := V) (H := H) hf d (g + 1) (by omega) (by omega) (fun x x0 x1 => a3 x (by omega) (by omega)) ?_ ?_
    · rw [show g + ((d + 1 : Nat) : Int) = g + 1 + d by omega]; exact e
    · rw [cq_0 hS (by omega) (a3 (g + 1) (by omega) (by omega))] at h1
      rw [show (g + 1 - f).toNat = (g - f).toNat + 1 by omega]
      show c + (rq S n H f (g - f).toNat V + Aq S n H (f + 1 + ((g - f).toNat : Int)) V) + cq S n H (g + 1) V = k
      rw [show f + 1 + (((g - f).toNat : Nat) : Int) = g + 1 by omega]
      omega
    · rw [show (g + 1 - f).toNat = (g - f).toNat + 1 by omega]
      show t ≤ (trk S f (g - f).toNat V * S + V (f + 1 + ((g - f).toNat : Int))) * S ^ (n - 1 - (g + 1)).toNat
      rw [show f + 1 + (((g - f).toNat : Nat) : Int) = g + 1 by omega, a3 (g + 1) (by omega) (by omega), Int.add_zero, Int.mul_assoc, Int.mul_comm S, ← Int.pow_succ, show (n - 1 - (g + 1)).toNat.succ = (n - 1 - g).toNat by omega]
      exact h2
theorem ww_0 (hp : 2 ≤ p) (hA : tmL s p n D TS TH TL LE LT LN m LR) (hf : 0 ≤ f ∧ f < n) (hk : 0 ≤ k ∧ k < sqN s p) {V : Int → Int} (hV : ∀ x, 0 ≤ x → x < n → V x = if x = f then k else 0) : wwP s p n D LT LN m LR f k V 0 f 0 := by
  have hS := sqN_p (s := s) hp
  refine ⟨by omega, fun x a b => ?_, fun x a b => by rw [hV x a (by omega), if_neg (by omega)], by rw [hV f hf.1 hf.2, if_pos rfl], fun x a b => by rw [hV x (by omega) b, if_neg (by omega)], ?_, ?_, fun i a b c d => ?_⟩
  · rw [hV x a b]; split <;> omega
  · rw [Int.sub_self]
    show 0 + 0 + cq (sqN s p) n (HWc s p n D LN m LR) f V = cq (sqN s p) n (HWc s p n D LN m LR) f (up (fun _ => 0) f k)
    rw [show (0 : Int) + 0 = 0 from rfl, Int.zero_add]
    refine cq_x (HW_x (by omega)) (by omega) (fun x a b => ?_)
    rw [hV x a (by omega)]
    by_cases e : x = f
    · rw [if_pos e, e, up_eq]
    · rw [if_neg e, up_ne e]
  · rw [Int.sub_self]
    show (0 : Int) ≤ 0 * _
    rw [Int.zero_mul]; exact Int.le_refl 0
  · have hl : 0 < lnA LN m i := by have := (hA i a b).2.2.1 c; omega
    exact tmA_z hp (hA i a b) hl (fun x x0 x1 => by rw [hV x x0 (by omega), if_neg (by omega)]) (by omega)
/-- a law fails at a letter: all that begin so fail -/
theorem ww_bad (hp : 2 ≤ p) (hA : tmL s p n D TS TH TL LE LT LN m LR) {V : Int → Int} {c g t b : Int} (hf : 0 ≤ f) (h : wwP s p n D LT LN m LR f k V c g t) (hb : g ≤ b ∧ b < n) (hx : ∃ i, (0 ≤ i ∧ i < 8) ∧ LT i = b ∧ ¬ lwZ s p n D LN m LR V i) (hz : ∀ i, 0 ≤ i → i < 8 → g ≤ LT i → LT i < b → lwZ s p n D LN m LR V i) : wwQ s p n D LT LN m LR f k V c b t := by
  obtain ⟨h1, h2, h3, h4, h5, h6, h7, h8⟩ := h
  have hS := sqN_p (s := s) hp
  obtain ⟨i, i1, i2, i3⟩ := hx
  have dn := ww_down (S := sqN s p) (n := n) (H := HWc s p n D LN m LR) hS (c := c) (t := t) (V := V) hf (b - g).toNat g h1.1 (by omega) (fun x a d => h5 x a (by omega)) h6 h7
  rw [show g + (((b - g).toNat : Nat) : Int) = b by omega] at dn
  have e : cq (sqN s p) n (HWc s p n D LN m LR) b V = 0 := cnt_0 _ _ (fun v' hv => HW_0 hA i1 (by omega) i3 (fun x a d => hv x a (by omega)))
  refine ⟨by omega, h2, h3, h4, fun x a d => h5 x (by omega) d, by omega, ?_, fun i a d q w => ?_⟩
  · have hpw : 1 ≤ sqN s p ^ (n - 1 - b).toNat := Int.pow_pos hS
    rw [Int.add_mul, Int.one_mul]
    omega
  · by_cases r : LT i < g
    · exact h8 i a d q r
    · exact hz i a d (by omega) w
/-- all laws hold: one way more -/
theorem ww_yes (hp : 2 ≤ p) (hm : 0 ≤ m ∧ m ≤ 8) (hA : tmL s p n D TS TH TL LE LT LN m LR) {V : Int → Int} {c g t : Int} (hf : 0 ≤ f) (h : wwP s p n D LT LN m LR f k V c g t) (hz : ∀ i, 0 ≤ i → i < 8 → g ≤ LT i → lwZ s p n D LN m LR V i) : wwQ s p n D LT LN m LR f k V (c + 1) (n - 1) t := by
  obtain ⟨h1, h2, h3, h4, h5, h6, h7, h8⟩ := h
  have hS := sqN_p (s := s) hp
  have all : ∀ i, 0 ≤ i → i < 8 → 0 ≤ LT i → lwZ s p n D LN m LR V i := fun i a b d => by
    by_cases r : LT i < g
    · exact h8 i a b d r
    · exact hz i a b (by omega)
  have dn := ww_down (S := sqN s p) (n := n) (H := HWc s p n D LN m LR) hS (c := c) (t := t) (V := V) hf (n - 1 - g).toNat g h1.1 (by omega) (fun x a d => h5 x a (by omega)) h6 h7
  rw [show g + (((n - 1 - g).toNat : Nat) : Int) = n - 1 by omega] at dn
  have e : cq (sqN s p) n (HWc s p n D LN m LR) (n - 1) V = 1 := by
    unfold cq
    rw [show (n - 1 - (n - 1)).toNat = 0 by omega]
    exact HW_1 hm hA all
  refine ⟨by omega, h2, h3, h4, fun x a d => by omega, by omega, ?_, fun i a d q _ => all i a d q⟩
  have := dn.2
  rw [show (n - 1 - (n - 1)).toNat = 0 by omega, Int.pow_zero, Int.mul_one] at this ⊢
  omega
theorem ww_carry (hp : 2 ≤ p) (hn : 0 < n) (hA : tmL s p n D TS TH TL LE LT LN m LR) {V : Int → Int} {c a t : Int} (hf : 0 ≤ f) (h : wwQ s p n D LT LN m LR f k V c a t) (ha : f < a) (hv : sqN s p - 1 ≤ V a) : wwQ s p n D LT LN m LR f k (up V a 0) c (a - 1) t := by
  obtain ⟨h1, h2, h3, h4, h5, h6, h7, h8⟩ := h
  have hS := sqN_p (s := s) hp
  have ej : (a - f).toNat = (a - 1 - f).toNat + 1 := by omega
  have ej2 : f + 1 + (((a - 1 - f).toNat : Nat) : Int) = a := by omega
  refine ⟨by omega, fun x x0 x1 => ?_, fun x x0 x1 => by rw [up_ne (by omega)]; exact h3 x x0 x1, by rw [up_ne (by omega)]; exact h4, fun x x0 x1 => ?_, ?_, ?_, fun i i0 i1 i2 i3 => ?_⟩
  · by_cases e : x = a
    · rw [e, up_eq]; omega
    · rw [up_ne e]; exact h2 x x0 x1
  · by_cases e : x = a
    · rw [e, up_eq]
    · rw [up_ne e]; exact h5 x (by omega) x1
  · rw [ej] at h6
    have h6 : c + (rq (sqN s p) n (HWc s p n D LN m LR) f (a - 1 - f).toNat V + Aq (sqN s p) n (HWc s p n D LN m LR) (f + 1 + ((a - 1 - f).toNat : Int)) V) = NwC s p n D LN m LR f k := h6
    rw [ej2, Aq_max hv, Int.add_zero] at h6
    rw [rq_x (HWc_x (s := s) (p := p) (D := D) (LN := LN) (m := m) (LR := LR) hn) hf (a - 1 - f).toNat (up V a 0) V (by omega) (fun x x0 x1 => up_ne (by omega))]
    exact h6
  · rw [ej] at h7
    have h7 : t + 1 ≤ (trk (sqN s p) f (a - 1 - f).toNat V * sqN s p + V (f + 1 + ((a - 1 - f).toNat : Int)) + 1) * sqN s p ^ (n - 1 - a).toNat := h7
    have hva := h2 a (by omega) (by omega)
    rw [ej2, show V a = sqN s p - 1 by omega] at h7
    rw [trk_x (a - 1 - f).toNat (up V a 0) V (fun x x0 x1 => up_ne (by omega)), show (n - 1 - (a - 1)).toNat = (n - 1 - a).toNat + 1 by omega, Int.pow_succ, Int.mul_comm (sqN s p ^ (n - 1 - a).toNat), ← Int.mul_assoc, Int.add_mul, Int.one_mul]
    rw [show trk (sqN s p) f (a - 1 - f).toNat V * sqN s p + (sqN s p - 1) + 1 = trk (sqN s p) f (a - 1 - f).toNat V * sqN s p + sqN s p by omega] at h7
    exact h7
  · have hl : 0 < lnA LN m i := by have := (hA i i0 i1).2.2.1 i2; omega
    exact tmA_dep (hA i i0 i1) hl (v := V) (fun x x0 x1 => (up_ne (by omega)).symm) (h8 i i0 i1 i2 (by omega))
theorem ww_fin {V : Int → Int} {c a t : Int} (h : wwQ s p n D LT LN m LR f k V c a t) (ha : a ≤ f) : c = NwC s p n D LN m LR f k := by
  have h6 := h.2.2.2.2.2.1
  rw [show (a - f).toNat = 0 by omega] at h6
  have h6 : c + 0 = NwC s p n D LN m LR f k := h6
  omega
theorem ww_inc (hp : 2 ≤ p) (hn : 0 < n) (hA : tmL s p n D TS TH TL LE LT LN m LR) {V : Int → Int} {c a t : Int} (hf : 0 ≤ f) (h : wwQ s p n D LT LN m LR f k V c a t) (ha : f < a) (hv : V a < sqN s p - 1) : wwP s p n D LT LN m LR f k (up V a (V a + 1)) c a (t + 1) := by
  obtain ⟨h1, h2, h3, h4, h5, h6, h7, h8⟩ := h
  have hS := sqN_p (s := s) hp
  have hva := h2 a (by omega) (by omega)
  have ej : (a - f).toNat = (a - 1 - f).toNat + 1 := by omega
  have ej2 : f + 1 + (((a - 1 - f).toNat : Nat) : Int) = a := by omega
  refine ⟨by omega, fun x x0 x1 => ?_, fun x x0 x1 => by rw [up_ne (by omega)]; exact h3 x x0 x1, by rw [up_ne (by omega)]; exact h4, fun x x0 x1 => by rw [up_ne (by omega)]; exact h5 x x0 x1, ?_, ?_, fun i i0 i1 i2 i3 => ?_⟩
  · by_cases e : x = a
    · rw [e, up_eq]; omega
    · rw [up_ne e]; exact h2 x x0 x1
  · rw [ej] at h6 ⊢
    have h6 : c + (rq (sqN s p) n (HWc s p n D LN m LR) f (a - 1 - f).toNat V + Aq (sqN s p) n (HWc s p n D LN m LR) (f + 1 + ((a - 1 - f).toNat : Int)) V) = NwC s p n D LN m LR f k := h6
    show c + (rq (sqN s p) n (HWc s p n D LN m LR) f (a - 1 - f).toNat (up V a (V a + 1)) + Aq (sqN s p) n (HWc s p n D LN m LR) (f + 1 + ((a - 1 - f).toNat : Int)) (up V a (V a + 1))) + cq (sqN s p) n (HWc s p n D LN m LR) a (up V a (V a + 1)) = NwC s p n D LN m LR f k
    rw [ej2] at h6 ⊢
    rw [Aq_inc ⟨hva.1, hv⟩] at h6
    rw [rq_x (HWc_x (s := s) (p := p) (D := D) (LN := LN) (m := m) (LR := LR) hn) hf (a - 1 - f).toNat (up V a (V a + 1)) V (by omega) (fun x x0 x1 => up_ne (by omega))]
    omega
  · rw [ej] at h7 ⊢
    have h7 : t + 1 ≤ (trk (sqN s p) f (a - 1 - f).toNat V * sqN s p + V (f + 1 + ((a - 1 - f).toNat : Int)) + 1) * sqN s p ^ (n - 1 - a).toNat := h7
    show t + 1 ≤ (trk (sqN s p) f (a - 1 - f).toNat (up V a (V a + 1)) * sqN s p + up V a (V a + 1) (f + 1 + ((a - 1 - f).toNat : Int))) * sqN s p ^ (n - 1 - a).toNat
    rw [ej2] at h7 ⊢
    rw [up_eq, trk_x (a - 1 - f).toNat (up V a (V a + 1)) V (fun x x0 x1 => up_ne (by omega))]
    rw [Int.add_assoc] at h7
    exact h7
  · have hl : 0 < lnA LN m i := by have := (hA i i0 i1).2.2.1 i2; omega
    exact tmA_dep (hA i i0 i1) hl (v := V) (fun x x0 x1 => (up_ne (by omega)).symm) (h8 i i0 i1 i2 i3)
theorem ww_lt (hp : 2 ≤ p) {V : Int → Int} {c g t : Int} (hf : 0 ≤ f) (h : wwP s p n D LT LN m LR f k V c g t) : t < sqN s p ^ (n - 1 - f).toNat := by
  obtain ⟨h1, h2, h3, h4, h5, h6, h7, h8⟩ := h
  have hS := sqN_p (s := s) hp
  have hb := trk_b (f := f) (S := sqN s p) (by omega) (g - f).toNat V (fun x a b => h2 x (by omega) (by omega))
  have hpw : 0 < sqN s p ^ (n - 1 - g).toNat := Int.pow_pos hS
  have h9 : trk (sqN s p) f (g - f).toNat V * sqN s p ^ (n - 1 - g).toNat < sqN s p ^ (g - f).toNat * sqN s p ^ (n - 1 - g).toNat := Int.mul_lt_mul_of_pos_right hb.2 hpw
  rw [← Int.pow_add, show (g - f).toNat + (n - 1 - g).toNat = (n - 1 - f).toNat by omega] at h9
  omega
end WWC
