/-! powers: the least one that is nought, told step by step -/
theorem fill_0 {f : Int → Int} {p A : Int} (hp : 2 ≤ p) (hA : A ≤ 364) : ∀ x, 0 ≤ x → x < A → 0 ≤ seg f 0 364 (fun _ => 0) x ∧ seg f 0 364 (fun _ => 0) x < p := fun x h0 h1 => by
  have : seg f 0 364 (fun _ => (0 : Int)) x = 0 := seg_in0 (g := fun _ => 0) (by omega)
  omega
theorem sG_ext {f g : Int → Int} : ∀ m : Nat, (∀ x : Int, 0 ≤ x → x < m → f x = g x) → sG f m = sG g m
  | 0, _ => rfl
  | m + 1, h => by
    show (if f m = 0 then sG f m else (m : Int)) = (if g m = 0 then sG g m else (m : Int))
    rw [h m (by omega) (by omega), sG_ext m (fun x a b => h x a (by omega))]
def zrR (n D : Int) (P : Int → Int) : Prop := ∀ x, 0 ≤ x → x < sS n D (D + 1) → P x = 0
def tpR (n D : Int) (P : Int → Int) : Int := sL n D (sG P (sS n D (D + 1)).toNat)
def pwr (n D p : Int) (LW : Int → (Int → Int) → Prop) (F : Int → Int) : Nat → Int → (Int → Int) → Int → Prop
  | 0, _, _, _ => False
  | m + 1, k, P, r => (zrR n D P ∧ r = k) ∨ (¬ zrR n D P ∧ (m = 0 ∨ D < tpR n D P + tpR n D F) ∧ r = -2) ∨ (¬ zrR n D P ∧ ¬ m = 0 ∧ tpR n D P + tpR n D F ≤ D ∧ ∃ Q, nfR n D p LW (fun x => prd n D P F x % p) Q ∧ pwr n D p LW F m (k + 1) Q r)
theorem zr_c {n D p : Int} {P Q : Int → Int} (h : ∀ x, 0 ≤ x → x < sS n D (D + 1) → P x = Q x) (hO : sOk n D p) : (zrR n D P ↔ zrR n D Q) ∧ tpR n D P = tpR n D Q := by
  have hA := sS_b (k := D + 1) hO
  refine ⟨⟨fun g x a b => by rw [← h x a b]; exact g x a b, fun g x a b => by rw [h x a b]; exact g x a b⟩, ?_⟩
  unfold tpR
  rw [sG_ext _ (fun x a b => h x a (by omega))]
theorem pwr_uniq {n D p : Int} {LW : Int → (Int → Int) → Prop} {F F' : Int → Int} (hO : sOk n D p) (hF : ∀ x, 0 ≤ x → x < sS n D (D + 1) → F x = F' x) : ∀ (m : Nat) (k : Int) (P P' : Int → Int) (r r' : Int), (∀ x, 0 ≤ x → x < sS n D (D + 1) → P x = P' x) → pwr n D p LW F m k P r → pwr n D p LW F' m k P' r' → r = r'
  | 0, k, P, P', r, r', hP, h, _ => h.elim
  | m + 1, k, P, P', r, r', hP, h, h' => by
    obtain ⟨hz, ht⟩ := zr_c hP hO
    obtain ⟨-, hf⟩ := zr_c hF hO
    rcases h with ⟨a, b⟩ | ⟨a, b, c⟩ | ⟨a, b, c, Q, d, e⟩
    · rcases h' with ⟨a', b'⟩ | ⟨a', -⟩ | ⟨a', -⟩
      · rw [b, b']
      · exact absurd (hz.mp a) a'
      · exact absurd (hz.mp a) a'
    · rcases h' with ⟨a', -⟩ | ⟨a', b', c'⟩ | ⟨a', b', c', -⟩
      · exact absurd (hz.mpr a') a
      · rw [c, c']
      · rw [← ht, ← hf] at c'
        rcases b with b | b
        · exact absurd b b'
        · omega
    · rcases h' with ⟨a', -⟩ | ⟨a', b', c'⟩ | ⟨a', b', c', Q', d', e'⟩
      · exact absurd (hz.mpr a') a
      · rw [← ht, ← hf] at b'
        rcases b' with b' | b'
        · exact absurd b' b
        · omega
      · refine pwr_uniq hO hF m (k + 1) Q Q' r r' (nfR_uniq hO (by have := hO.2.2.2.1; omega) (fun x _ _ => ?_) d d') e e'
        exact mE_trans (mE_emod p _) (mE_trans (prd_c (q := p) (fun y g0 g1 => mE_of (hP y g0 g1)) (fun y g0 g1 => mE_of (hF y g0 g1)) x) (mE_symm (mE_emod p _)))
theorem nfR_src {n D p : Int} {LW : Int → (Int → Int) → Prop} {f g X : Int → Int} (hO : sOk n D p) (h : nfR n D p LW f X) (e : ∀ x, 0 ≤ x → x < sS n D (D + 1) → f x = g x) : nfR n D p LW g X := fun d h0 h1 => by
  have hs := nV_subI (n := n) (LW := LW) (show 0 < p by have := hO.2.2.2.1; omega) (show 0 ≤ D by omega) h0
  refine nf_src hs (h d h0 h1) (fun j a b => ?_)
  have := sS_word hO h0 ⟨a, b⟩
  exact e _ (by omega) (by omega)
theorem pwr_c {n D p : Int} {LW : Int → (Int → Int) → Prop} {F : Int → Int} (hO : sOk n D p) {m : Nat} {k r : Int} {P P' : Int → Int} (hP : ∀ x, 0 ≤ x → x < sS n D (D + 1) → P x = P' x) (h : pwr n D p LW F m k P r) : pwr n D p LW F m k P' r := by
  cases m with
  | zero => exact h.elim
  | succ m =>
    obtain ⟨hz, ht⟩ := zr_c hP hO
    rcases h with ⟨a, b⟩ | ⟨a, b, c⟩ | ⟨a, b, c, Q, d, e⟩
    · exact .inl ⟨hz.mp a, b⟩
    · exact .inr (.inl ⟨fun g => a (hz.mpr g), by rw [← ht]; exact b, c⟩)
    · refine .inr (.inr ⟨fun g => a (hz.mpr g), b, by rw [← ht]; exact c, Q, ?_, e⟩)
      refine nfR_src hO d (fun x h0 h1 => ?_)
      exact mE_mod (prd_c (q := p) (fun y g0 g1 => mE_of (hP y g0 g1)) (fun y _ _ => mE_rfl p _) x)
theorem z_of {n D p : Int} {P : Int → Int} (hO : sOk n D p) (h : sG P (sS n D (D + 1)).toNat < 0) : zrR n D P := fun x a b => sG_nn _ h x a (by have := sS_b (k := D + 1) hO; omega)
theorem z_no {n D p : Int} {P : Int → Int} (hO : sOk n D p) (h : ¬ sG P (sS n D (D + 1)).toNat < 0) : ¬ zrR n D P := fun g => by
  obtain ⟨x, a, b, c⟩ := sG_pp _ (Int.not_lt.mp h)
  exact c (g x a (by have := sS_b (k := D + 1) hO; omega))
theorem mi_97 {n D p : Int} {X Y : Int → Int} (hO : sOk n D p) (hY : R97 Y) (h1 : ∀ x, 0 ≤ x → x < sS n D (D + 1) → 0 ≤ X x ∧ X x < p) (h2 : ∀ x, ¬ (0 ≤ x ∧ x < sS n D (D + 1)) → X x = Y x) : R97 X := fun x => by
  by_cases c : 0 ≤ x ∧ x < sS n D (D + 1)
  · have := h1 x c.1 c.2
    have := hO.2.2.2.2.1
    omega
  · rw [h2 x c]; exact hY x
theorem dn_p {n D a : Int} (h : (if a = -1 then -1 else sL n D a) = -1) (hb : -1 ≤ a := by exact (sG_b _ _).1) : a < 0 := by
  by_cases c : a = -1
  · omega
  · rw [if_neg c] at h
    have := sL_b n D a
    omega
theorem dn_n {n D a : Int} (h : ¬ (if a = -1 then -1 else sL n D a) = -1) (hb : -1 ≤ a := by exact (sG_b _ _).1) : 0 ≤ a := by
  by_cases c : a = -1
  · rw [if_pos c] at h; exact absurd rfl h
  · omega
