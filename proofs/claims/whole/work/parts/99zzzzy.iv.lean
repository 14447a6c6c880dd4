/-! both sides between the calls: what they hold is the same -/
theorem ct_mono {z : Nat} {as : List en_v} {σ : en_m} {Q Q' : Option en_v → en_m → Prop} (h : en_ct z as σ Q) (g : ∀ r σ', Q r σ' → Q' r σ') : en_ct z as σ Q' := by
  obtain ⟨n, r, σ', e, q⟩ := h
  exact ⟨n, r, σ', e, g r σ' q⟩
theorem fn_mono {z : Nat} {as : List en_v} {σ : en_m} {v : en_v} {Q' : Option en_v → en_m → Prop} (h : en_fn z as σ v) (g : Q' (some v) σ) : en_ct z as σ Q' := ct_mono h (fun r σ' q => by rw [q.1, q.2]; exact g)
theorem tb_b (v s : Int) : -128 ≤ tb v s ∧ tb v s ≤ 127 := by
  show -128 ≤ (en_ishr v s).bmod 256 ∧ (en_ishr v s).bmod 256 ≤ 127
  rw [Int.bmod_def]
  split <;> omega
theorem up_bt {f : Int → Int} {i v : Int} (h : ∀ x, -128 ≤ f x ∧ f x ≤ 127) (hv : -128 ≤ v ∧ v ≤ 127) : ∀ x, -128 ≤ up f i v x ∧ up f i v x ≤ 127 := fun x => by
  by_cases q : x = i
  · rw [q, up_eq]; exact hv
  · rw [up_ne q]; exact h x
theorem t4_b {f : Int → Int} {T v : Int} (h : ∀ x, -128 ≤ f x ∧ f x ≤ 127) : ∀ x, -128 ≤ t4 f T v x ∧ t4 f T v x ≤ 127 := up_bt (up_bt (up_bt (up_bt h (tb_b _ _)) (tb_b _ _)) (tb_b _ _)) (tb_b _ _)
theorem t20_b {f : Int → Int} {T a b c d e : Int} (h : ∀ x, -128 ≤ f x ∧ f x ≤ 127) : ∀ x, -128 ≤ t20 f T a b c d e x ∧ t20 f T a b c d e x ≤ 127 := t4_b (t4_b (t4_b (t4_b (t4_b h))))
theorem sAt_i {n D p w : Int} (h : sOk n D p) : ¬ sAt n D w = -1 ↔ 0 ≤ sAt n D w := by
  have := sAt_b (w := w) h
  omega
theorem sAt_in {n D p w : Int} (hO : sOk n D p) (h : 0 ≤ sAt n D w) : sAt n D w < sS n D (D + 1) := by
  have g := sAt_p h
  rw [g.2.2.2.2.2]
  exact (sS_word hO g.2.1 ⟨g.2.2.2.1, g.2.2.2.2.1⟩).2.2.1
theorem sC_ext {f g : Int → Int} : ∀ m : Nat, (∀ x : Int, 0 ≤ x → x < m → f x = g x) → sC f m = sC g m
  | 0, _ => rfl
  | m + 1, h => by
    show sC f m + (if f m = 0 then 0 else 1) = sC g m + (if g m = 0 then 0 else 1)
    rw [sC_ext m (fun x a b => h x a (by omega)), h m (by omega) (by omega)]
theorem sC_z {f : Int → Int} {m : Nat} : ∀ j : Nat, (∀ x : Int, m ≤ x → x < m + j → f x = 0) → sC f (m + j) = sC f m
  | 0, _ => rfl
  | j + 1, h => by
    show sC f (m + j) + (if f ((m + j : Nat) : Int) = 0 then 0 else 1) = sC f m
    rw [if_pos (h _ (by omega) (by omega)), sC_z j (fun x a b => h x a (by omega)), Int.add_zero]
theorem sC_c {f g : Int → Int} {m : Int} (hm : 0 ≤ m ∧ m ≤ 364) (h : ∀ x : Int, 0 ≤ x → x < m → f x = g x) (hz : ∀ x : Int, m ≤ x → x < 364 → f x = 0) : sC f 364 = sC g m.toNat := by
  have e := sC_z (f := f) (m := m.toNat) (364 - m.toNat) (fun x a b => hz x (by omega) (by omega))
  rw [show m.toNat + (364 - m.toNat) = 364 by omega] at e
  rw [e]
  exact sC_ext _ (fun x a b => h x a (by omega))
/-- six elements, on both sides -/
def eE (n D p : Int) (A B : Int → Int) : Prop := (∀ e x, (0 ≤ e ∧ e ≤ 5) → (0 ≤ x ∧ x < sS n D (D + 1)) → A (e * 364 + x) = B (400 * e + x)) ∧ (∀ e x, (0 ≤ e ∧ e ≤ 5) → (0 ≤ x ∧ x < sS n D (D + 1)) → A (e * 364 + x) < p) ∧ ∀ e x, (0 ≤ e ∧ e ≤ 5) → sS n D (D + 1) ≤ x → x < 364 → A (e * 364 + x) = 0
section EE
variable {n D p e s v : Int} {A A' B B' P : Int → Int}
theorem eE_o (h : eE n D p A B) : ∀ e x, (0 ≤ e ∧ e ≤ 5) → (0 ≤ x ∧ x < sS n D (D + 1)) → B (400 * e + x) < p := fun e x a b => by
  rw [← h.1 e x a b]; exact h.2.1 e x a b
theorem eE_r (h : eE n D p A B) (he : 0 ≤ e ∧ e ≤ 5) : ∀ x, 0 ≤ x → x < sS n D (D + 1) → (fun k => A (e * 364 + k)) x = (fun k => B (400 * e + k)) x := fun x a b => h.1 e x he ⟨a, b⟩
theorem eE_C (hO : sOk n D p) (h : eE n D p A B) (he : 0 ≤ e ∧ e ≤ 5) : sC (fun k => A (e * 364 + k)) 364 = sC (fun k => B (400 * e + k)) (sS n D (D + 1)).toNat := sC_c (sS_b hO) (eE_r h he) (fun x a b => h.2.2 e x he a b)
theorem eE_G (h : eE n D p A B) (he : 0 ≤ e ∧ e ≤ 5) : sG (fun k => A (e * 364 + k)) (sS n D (D + 1)).toNat = sG (fun k => B (400 * e + k)) (sS n D (D + 1)).toNat := sG_ext _ (fun x a b => eE_r h he x a (by omega))
theorem eE_set (hO : sOk n D p) (h : eE n D p A B) (he : 0 ≤ e ∧ e ≤ 5) (hA : A' = seg A (e * 364) 364 P) (hB : ∀ x, 0 ≤ x → x < sS n D (D + 1) → B' (400 * e + x) = P x) (hB2 : ∀ x, (x < 400 * e ∨ 400 * e + 400 ≤ x) → B' x = B x) (hp : ∀ x, 0 ≤ x → x < sS n D (D + 1) → P x < p) (hz : ∀ x, sS n D (D + 1) ≤ x → x < 364 → P x = 0) : eE n D p A' B' := by
  have hS := sS_b (k := D + 1) hO
  subst hA
  have key : ∀ c x, (0 ≤ c ∧ c ≤ 5) → 0 ≤ x → x < 364 → seg A (e * 364) 364 P (c * 364 + x) = if c = e then P x else A (c * 364 + x) := fun c x a b d => by
    by_cases q : c = e
    · rw [if_pos q, q, seg_in ⟨b, d⟩]
    · rw [if_neg q, seg_out (by omega)]
  refine ⟨fun c x a b => ?_, fun c x a b => ?_, fun c x a b d => ?_⟩
  · rw [key c x a b.1 (by omega)]
    by_cases q : c = e
    · rw [if_pos q, q, hB x b.1 b.2]
    · rw [if_neg q, hB2 _ (by omega)]
      exact h.1 c x a b
  · rw [key c x a b.1 (by omega)]
    by_cases q : c = e
    · rw [if_pos q]; exact hp x b.1 b.2
    · rw [if_neg q]; exact h.2.1 c x a b
  · rw [key c x a (by omega) d]
    by_cases q : c = e
    · rw [if_pos q]; exact hz x b d
    · rw [if_neg q]; exact h.2.2 c x a b d
theorem eE_up (hO : sOk n D p) (h : eE n D p A B) (he : 0 ≤ e ∧ e ≤ 5) (hs : 0 ≤ s ∧ s < sS n D (D + 1)) (hv : v < p) : eE n D p (up A (e * 364 + s) v) (up B (400 * e + s) v) := by
  have hS := sS_b (k := D + 1) hO
  refine ⟨fun c x a b => ?_, fun c x a b => ?_, fun c x a b d => ?_⟩
  · by_cases q : c = e ∧ x = s
    · rw [q.1, q.2, up_eq, up_eq]
    · rw [up_ne (by omega), up_ne (by omega)]
      exact h.1 c x a b
  · by_cases q : c = e ∧ x = s
    · rw [q.1, q.2, up_eq]; exact hv
    · rw [up_ne (by omega)]
      exact h.2.1 c x a b
  · rw [up_ne (by omega)]
    exact h.2.2 c x a b d
theorem eE_0 (hO : sOk n D p) : eE n D p (seg A 0 2184 (fun _ => 0)) (seg B 0 2400 (fun _ => 0)) := by
  have hS := sS_b (k := D + 1) hO
  have hp : 0 < p := by have := hO.2.2.2.1; omega
  exact ⟨fun c x a b => by rw [seg_in0 (by omega), seg_in0 (by omega)], fun c x a b => by rw [seg_in0 (by omega)]; exact hp, fun c x a b d => by rw [seg_in0 (by omega)]⟩
theorem eE_c (hO : sOk n D p) (h : eE n D p A B) (hA : ∀ k, 0 ≤ k → k < 2184 → A' k = A k) (hB : ∀ k, 0 ≤ k → k < 2400 → B' k = B k) : eE n D p A' B' := by
  have hS := sS_b (k := D + 1) hO
  exact ⟨fun c x a b => by rw [hA _ (by omega) (by omega), hB _ (by omega) (by omega)]; exact h.1 c x a b, fun c x a b => by rw [hA _ (by omega) (by omega)]; exact h.2.1 c x a b, fun c x a b d => by rw [hA _ (by omega) (by omega)]; exact h.2.2 c x a b d⟩
end EE
/-- what is held -/
def eH (n D p : Int) (IK A IH B : Int → Int) : Prop := ∀ s, 0 ≤ s → s ≤ 2 → IK s = IH s ∧ (¬ IK s = 0 → eE n D p (fun k => A (s * 2184 + k)) (fun k => B (2400 * s + k)))
section EH
variable {n D p s : Int} {IK A IH B R E : Int → Int}
theorem eH_0 : eH n D p (seg IK 0 3 (fun _ => 0)) A (seg IH 0 3 (fun _ => 0)) B := fun t a b => by
  rw [seg_in0 (by omega), seg_in0 (by omega)]
  exact ⟨rfl, fun q => absurd rfl q⟩
theorem eH_hold (hO : sOk n D p) (h : eH n D p IK A IH B) (hE : eE n D p R E) (hs : 0 ≤ s ∧ s ≤ 2) : eH n D p (up IK s 1) (seg A (s * 2184) 2184 (fun k => R k)) (up IH s 1) (seg B (2400 * s) 2400 (fun k => E k)) := fun t a b => by
  by_cases q : t = s
  · subst q
    refine ⟨by rw [up_eq, up_eq], fun _ => eE_c hO hE (fun k x y => ?_) (fun k x y => ?_)⟩
    · show seg A (t * 2184) 2184 (fun k => R k) (t * 2184 + k) = R k
      exact seg_in ⟨x, y⟩
    · show seg B (2400 * t) 2400 (fun k => E k) (2400 * t + k) = E k
      exact seg_in ⟨x, y⟩
  · rw [up_ne q, up_ne q]
    refine ⟨(h t a b).1, fun r => eE_c hO ((h t a b).2 r) (fun k x y => ?_) (fun k x y => ?_)⟩
    · show seg A (s * 2184) 2184 (fun k => R k) (t * 2184 + k) = A (t * 2184 + k)
      exact seg_out (by omega)
    · show seg B (2400 * s) 2400 (fun k => E k) (2400 * t + k) = B (2400 * t + k)
      exact seg_out (by omega)
theorem eH_rest (hO : sOk n D p) (h : eH n D p IK A IH B) (hs : 0 ≤ s ∧ s ≤ 2) (hk : ¬ IK s = 0) : eE n D p (seg R 0 2184 (fun k => A (s * 2184 + k))) (seg E 0 2400 (fun k => B (2400 * s + k))) := eE_c hO ((h s hs.1 hs.2).2 hk) (fun k x y => seg_in0 ⟨x, y⟩) (fun k x y => seg_in0 ⟨x, y⟩)
end EH
/-- the laws, on both sides -/
def eL (n D p m : Int) (LN LR ln lr : Int → Int) : Prop := ∀ i, 0 ≤ i → i < m → LN i = ln i ∧ (0 ≤ LN i ∧ LN i ≤ D) ∧ (0 < LN i → 0 < n ∧ ∃ w, (0 ≤ w ∧ w < sW n D (LN i)) ∧ ¬ LR (i * 256 + w) % p = 0) ∧ ∀ w, 0 ≤ w → w < sW n D (LN i) → LR (i * 256 + w) = lr (i * 256 + w)
section EL
variable {n D p m a most : Int} {LN LR ln lr : Int → Int}
theorem eL_d (h : eL n D p m LN LR ln lr) : ∀ i, 0 ≤ i → i < m → (0 ≤ LN i ∧ LN i ≤ D) ∧ (1 ≤ LN i → 0 < n) := fun i x y => ⟨(h i x y).2.1, fun q => ((h i x y).2.2.1 (by omega)).1⟩
theorem eL_e (h : eL n D p m LN LR ln lr) : ∀ i, 0 ≤ i → i < m → (0 ≤ ln i ∧ ln i ≤ D) ∧ (1 ≤ ln i → 0 < n) := fun i x y => by
  rw [← (h i x y).1]; exact eL_d h i x y
theorem eL_z (h : eL n D p m LN LR ln lr) : ∀ i, 0 ≤ i → i < m → 0 < LN i → LN i ≤ D ∧ 0 < n ∧ ∃ w, (0 ≤ w ∧ w < sW n D (LN i)) ∧ ¬ LR (i * 256 + w) % p = 0 := fun i x y q => ⟨(h i x y).2.1.2, (h i x y).2.2.1 q⟩
theorem eL_w (h : eL n D p m LN LR ln lr) : wyF a p n D LN m LR most = wyF a p n D ln m lr most := wyF_c (fun i x y => ⟨(h i x y).1, (h i x y).2.2.2⟩)
theorem eL_q (h : eL n D p m LN LR ln lr) : (∀ k : Int, 0 ≤ k → k < m → LN k = 0 ∨ LN k = 2) ↔ ∀ k : Int, 0 ≤ k → k < m → ln k = 0 ∨ ln k = 2 := ⟨fun g k x y => by rw [← (h k x y).1]; exact g k x y, fun g k x y => by rw [(h k x y).1]; exact g k x y⟩
end EL
theorem sm_sh (f : Int → Int) : ∀ m : Nat, sm f (m + 1) = f 0 + sm (fun d => f (d + 1)) m
  | 0 => by show (0 : Int) + f ((0 : Nat) : Int) = f 0 + 0; rw [Int.zero_add, Int.add_zero]; rfl
  | m + 1 => by
    show sm f (m + 1) + f ((m + 1 : Nat) : Int) = f 0 + (sm (fun d => f (d + 1)) m + f ((m : Int) + 1))
    rw [sm_sh f m, show ((m + 1 : Nat) : Int) = (m : Int) + 1 by omega]
    omega
theorem cB_00 {L : Int → Int} {n D p : Int} (hO : sOk n D p) : cB L n D 0 = 0 := by
  have e : sW n D 0 = 1 := sW_0 (by have := hO.2.1; omega)
  unfold cB
  rw [e]
  show (0 : Int) + bI (isB L n D 0 ((0 : Nat) : Int)) = 0
  rw [bI_f (fun q => by have := q.1; omega)]
  rfl
theorem cB_sh {L : Int → Int} {n D p : Int} (hO : sOk n D p) : sm (fun d => cB L n D d) (D + 1).toNat = sm (fun d => cB L n D (d + 1)) D.toNat := by
  have hD := hO.2.1
  rw [show (D + 1).toNat = D.toNat + 1 by omega, sm_sh]
  show cB L n D 0 + _ = _
  rw [cB_00 hO, Int.zero_add]
theorem ldOk_ex {n D p : Int} {LW : Int → (Int → Int) → Prop} (hO : sOk n D p) : ∃ L, ldOk L n D p LW := by
  classical
  refine ⟨fun x => if hasTop p (sW n D (sL n D x)) (nV n D p LW (sL n D x).toNat) (x - sS n D (sL n D x)) then 1 else 0, fun x => ?_, fun d w a b c e => ?_⟩
  · show (if _ then (1 : Int) else 0) = 0 ∨ (if _ then (1 : Int) else 0) = 1
    split
    · exact .inr rfl
    · exact .inl rfl
  · show (if hasTop p (sW n D (sL n D (sS n D d + w))) (nV n D p LW (sL n D (sS n D d + w)).toNat) (sS n D d + w - sS n D (sL n D (sS n D d + w))) then (1 : Int) else 0) = 1 ↔ _
    rw [sL_word hO a ⟨c, e⟩, show sS n D d + w - sS n D d = w by omega]
    by_cases q : hasTop p (sW n D d) (nV n D p LW d.toNat) w
    · rw [if_pos q]; exact ⟨fun _ => q, fun _ => rfl⟩
    · rw [if_neg q]; exact ⟨fun r => absurd r (by decide), fun r => absurd r q⟩
theorem mN_L1 {rs rw_ ld sz : Int → Int} {n D p : Int} {LW : Int → (Int → Int) → Prop} (hO : sOk n D p) (h1 : R01 ld) (h : ∀ d, 0 ≤ d → d ≤ D → mNd rs rw_ ld sz 1 n D p LW d) : ldOk (fun x => ld (400 + x)) n D p LW := by
  refine ⟨fun x => h1 _, fun d w a b c e => ?_⟩
  have g := mD_top (h d a b).2.1 c e hO.2.2.2
  show ld (400 + (sS n D d + w)) = 1 ↔ _
  rw [show 400 + (sS n D d + w) = 400 * 1 + sS n D d + w by omega]
  exact g.symm
theorem mN_s1 {rs rw_ ld sz : Int → Int} {n D p : Int} {LW : Int → (Int → Int) → Prop} (h : ∀ d, 0 ≤ d → d ≤ D → mNd rs rw_ ld sz 1 n D p LW d) {d : Int} (h0 : 0 ≤ d) (hd : d ≤ D) : sz (9 + d) = szL (fun x => ld (400 + x)) n D d := by
  have g := (h d h0 hd).2.2
  rw [show 9 * 1 + d = 9 + d by omega] at g
  rw [g]
  exact sm_ext _ (fun w a b => by
    show (if ld (400 * 1 + sS n D d + w) = 0 then (1 : Int) else 0) = (if ld (400 + (sS n D d + w)) = 0 then (1 : Int) else 0)
    rw [show 400 * 1 + sS n D d + w = 400 + (sS n D d + w) by omega])
def btA (t : Int → Int) (D r : Int) : Prop := (r = -2 ∧ ∀ d, 1 ≤ d → d ≤ D → t d = 0) ∨ ((1 ≤ r ∧ r ≤ D) ∧ ¬ t r = 0 ∧ ∀ d, 1 ≤ d → d < r → t d = 0)
theorem btA_u {t u : Int → Int} {D r s : Int} (h : btA t D r) (g : btA u D s) (e : ∀ d, 1 ≤ d → d ≤ D → t d = u d) : r = s := by
  rcases h with ⟨a, b⟩ | ⟨a, b, c⟩ <;> rcases g with ⟨a', b'⟩ | ⟨a', b', c'⟩
  · omega
  · exact absurd (by rw [← e s a'.1 a'.2]; exact b s a'.1 a'.2) b'
  · exact absurd (by rw [e r a.1 a.2]; exact b' r a.1 a.2) b
  · rcases Int.lt_trichotomy r s with q | q | q
    · exact absurd (by rw [e r a.1 a.2]; exact c' r a.1 q) b
    · exact q
    · exact absurd (by rw [← e s a'.1 a'.2]; exact c s a'.1 q) b'
/-- names, on both sides -/
def eN (n : Int) (A B : Int → Int) : Prop := ∀ j, 0 ≤ j → j < n → i64 (A j) ∧ i64 (B j) ∧ nmR (A j) (B j)
/-- laws of squares -/
def eQ (q n D p m : Int) (LW : Int → (Int → Int) → Prop) (ln rs rw_ ld sz : Int → Int) : Prop := (q = 1 ∧ (∀ i, 0 ≤ i → i < m → ln i = 0 ∨ ln i = 2) ∧ ∀ d, 0 ≤ d → d ≤ D → mNd rs rw_ ld sz 1 n D p (dLW n D p LW) d) ∨ (q = 0 ∧ ¬ ∀ i, 0 ≤ i → i < m → ln i = 0 ∨ ln i = 2)
theorem eQ_i {q n D p m : Int} {LW : Int → (Int → Int) → Prop} {ln rs rw_ ld sz : Int → Int} (h : eQ q n D p m LW ln rs rw_ ld sz) : q = 0 ∨ q = 1 := by
  rcases h with h | h
  · exact .inr h.1
  · exact .inl h.1
theorem eQ_q {q n D p m : Int} {LW : Int → (Int → Int) → Prop} {ln rs rw_ ld sz : Int → Int} (h : eQ q n D p m LW ln rs rw_ ld sz) : ¬ q = 0 ↔ ∀ i, 0 ≤ i → i < m → ln i = 0 ∨ ln i = 2 := by
  rcases h with h | h
  · exact ⟨fun _ => h.2.1, fun _ => by rw [h.1]; decide⟩
  · exact ⟨fun g => absurd h.1 g, fun g => absurd g h.2⟩
theorem eQ_L {q n D p m : Int} {LW : Int → (Int → Int) → Prop} {ln rs rw_ ld sz : Int → Int} (hO : sOk n D p) (h1 : R01 ld) (h : eQ q n D p m LW ln rs rw_ ld sz) : ∃ L1, ldOk L1 n D p (dLW n D p LW) ∧ ∀ d, 0 ≤ d → d ≤ D → ¬ q = 0 → sz (9 + d) = szL L1 n D d := by
  rcases h with h | h
  · exact ⟨_, mN_L1 hO h1 h.2.2, fun d a b _ => mN_s1 h.2.2 a b⟩
  · obtain ⟨L1, hL1⟩ := ldOk_ex (LW := dLW n D p LW) hO
    exact ⟨L1, hL1, fun d _ _ g => absurd h.1 g⟩
theorem eQ_b {q n D p m : Int} {LW : Int → (Int → Int) → Prop} {ln rs rw_ ld sz : Int → Int} (hO : sOk n D p) (h1 : R01 ld) (h : eQ q n D p m LW ln rs rw_ ld sz) : ∀ k, 0 ≤ k → k ≤ D → 0 ≤ sz (9 + k) ∧ sz (9 + k) ≤ 256 ∨ q = 0 := fun k a b => by
  by_cases c : q = 0
  · exact .inr c
  · obtain ⟨L1, _, e⟩ := eQ_L hO h1 h
    rw [e k a b c]
    exact .inl (szL_b _ hO)
theorem tl_i {a b D x y : Int} (ha : -1 ≤ a) (hb : -1 ≤ b) (hx : 0 ≤ x) (hy : 0 ≤ y) : ((¬ (if a = -1 then -1 else x) = -1 ∧ ¬ (if b = -1 then -1 else y) = -1) ∧ D < (if a = -1 then -1 else x) + (if b = -1 then -1 else y)) ↔ (0 ≤ a ∧ 0 ≤ b ∧ D < x + y) := by
  by_cases qa : a = -1
  · rw [if_pos qa]
    exact ⟨fun g => absurd rfl g.1.1, fun g => by omega⟩
  · rw [if_neg qa]
    by_cases qb : b = -1
    · rw [if_pos qb]
      exact ⟨fun g => absurd rfl g.1.2, fun g => by omega⟩
    · rw [if_neg qb]
      exact ⟨fun g => ⟨by omega, by omega, g.2⟩, fun g => ⟨⟨by omega, by omega⟩, g.2.2⟩⟩
theorem sW_n0 {D k : Int} (hk : 1 ≤ k) : sW 0 D k = 0 := by
  unfold sW
  split
  · rw [show k.toNat = (k.toNat - 1) + 1 by omega, Int.pow_succ, Int.mul_zero]
  · rfl
theorem grz_0 {L : Int → Int} {D q r : Int} (h : isPL L 0 D q) (g : grR L 0 D q r) : r = 0 := by
  have hq : 1 ≤ q := by
    rcases h with h | ⟨d, h1, _, _, h2⟩
    · omega
    · omega
  have e : sW 0 D q = 0 := sW_n0 hq
  rcases g with ⟨_, w, a, b, _⟩ | ⟨_, g⟩
  · omega
  · rw [e] at g
    exact g
theorem nV_zz {n D p d : Int} {LW : Int → (Int → Int) → Prop} (hO : sOk n D p) (hd : 0 ≤ d) (f : Int → Int) : nV n D p LW d.toNat (fun j => f j - f j) := by
  have e : (fun j => f j - f j) = fun _ => 0 := by funext j; omega
  rw [e]
  exact (nV_subI (n := n) (LW := LW) (show 0 < p by have := hO.2.2.2.1; omega) (show 0 ≤ D by have := hO.2.1; omega) hd).1
theorem nf_u {n D p d x : Int} {LW : Int → (Int → Int) → Prop} {f X Y : Int → Int} (hO : sOk n D p) (hd : 0 ≤ d) (h1 : isNF p (sW n D d) (nV n D p LW d.toNat) f X) (h2 : isNF p (sW n D d) (nV n D p LW d.toNat) f Y) (hx : 0 ≤ x ∧ x < sW n D d) : X x = Y x := nf_uniq (nV_subI (n := n) (LW := LW) (show 0 < p by have := hO.2.2.2.1; omega) (show 0 ≤ D by have := hO.2.1; omega) hd) (sW_b (k := d) hO).1 (nV_zz hO hd f) h1 h2 x hx.1 hx.2
theorem ans {a b : Int} (h : a = b) : ∃ v : Int, (some (.inl a) : Option en_v) = some (.inl v) ∧ (some (.inl b) : Option en_v) = some (.inl v) := ⟨a, rfl, by rw [h]⟩
theorem ansl {a b : Int} (h : a = b) : ∃ v : Int, (some (.inr (.inl a)) : Option en_v) = some (.inr (.inl v)) ∧ (some (.inr (.inl b)) : Option en_v) = some (.inr (.inl v)) := ⟨a, rfl, by rw [h]⟩
/-! all that both sides hold between the calls -/
def iC (σ : en_m) (n D p : Int) (LW : Int → (Int → Int) → Prop) : Prop := (cS0 σ n D p) ∧ (0 ≤ (σ r_Tape_filled) 0 ∧ (σ r_Tape_filled) 0 ≤ 2000) ∧ ((σ r_Shape1_start) 0 = 0) ∧ ((σ r_Shape0_start) 0 = 0) ∧ (R97 (σ r_Telling_law)) ∧ (R97 (σ r_Sums_sumRowsR)) ∧ (R97 (σ r_Sums_termRowsR)) ∧ (R97 (σ r_Sums_spare)) ∧ (R97 (σ r_Telling_lawsR)) ∧ ((0 ≤ (σ r_Nought0_lawsNow) 0 ∧ (σ r_Nought0_lawsNow) 0 ≤ 16) ∧ R97 (σ r_Nought0_lawsR) ∧ ∀ i, i32 ((σ r_Nought0_lengths) i)) ∧ ((σ r_Nought0_lawsNow) 0 ≤ 8) ∧ (R97 (σ r_Elements_rowsR)) ∧ (R97 (σ r_Elements_spare)) ∧ (R97 (σ r_Elements_product)) ∧ (R97 (σ r_Elements_factor)) ∧ (cNg (σ r_Nought0_forms) (σ r_Nought0_formStart) (σ r_Nought0_leading) (σ r_Nought0_sizes) (σ r_Nought0_row) n D p LW ((σ r_Nought0_reached) 0)) ∧ (lwOk (σ r_Nought0_lawsR) (σ r_Nought0_lengths) ((σ r_Nought0_lawsNow) 0) n D p LW) ∧ (((σ r_Machine_ways) 0 = 0 ∧ (σ r_Machine_waysNext) 0 = 81) ∨ ((σ r_Machine_ways) 0 = 81 ∧ (σ r_Machine_waysNext) 0 = 0)) ∧ (((σ r_Machine_chainsNow) 0 = 0 ∧ (σ r_Machine_chainsNext) 0 = 2912) ∨ ((σ r_Machine_chainsNow) 0 = 2912 ∧ (σ r_Machine_chainsNext) 0 = 0))
def iK (σ : en_m) (n D p : Int) (LW : Int → (Int → Int) → Prop) : Prop := (R97 (σ r_Nought1_forms) ∧ R01 (σ r_Nought1_leading) ∧ R97 (σ r_Nought1_row) ∧ (σ r_Nought1_formStart) 0 = 0 ∧ R97 (σ r_Nought1_lawsR) ∧ R97 (σ r_Mirror_law) ∧ ∀ i, i32 ((σ r_Nought1_lengths) i)) ∧ ((σ r_Mirror_known) 0 = 1 → (cNg (σ r_Nought1_forms) (σ r_Nought1_formStart) (σ r_Nought1_leading) (σ r_Nought1_sizes) (σ r_Nought1_row) n D p (dLW n D p LW) ((σ r_Nought1_reached) 0)) ∧ ((0 ≤ (σ r_Nought1_lawsNow) 0 ∧ (σ r_Nought1_lawsNow) 0 ≤ 16) ∧ R97 (σ r_Nought1_lawsR) ∧ ∀ i, i32 ((σ r_Nought1_lengths) i)) ∧ lwOk (σ r_Nought1_lawsR) (σ r_Nought1_lengths) ((σ r_Nought1_lawsNow) 0) n D p (dLW n D p LW)) ∧ ((σ r_Mirror_known) 0 = 0 ∨ (σ r_Mirror_known) 0 = 1) ∧ (∀ j, -10000 ≤ (σ r_Ranks_equation) j ∧ (σ r_Ranks_equation) j ≤ 10000) ∧ (R97 (σ r_Ranks_keptR)) ∧ (R01 (σ r_Ranks_isKept)) ∧ (R97 (σ r_Squares_row)) ∧ ((σ r_Squares_lawEnds) 0 = 0) ∧ (R01 (σ r_Squares_seen)) ∧ (i32 ((σ r_WA_pointsKnown) 0)) ∧ ((σ r_WA_pointsKnown) 0 = -9 ∨ (σ r_WA_pointsKnown) 0 = wyF 1 p n D (σ r_Nought0_lengths) ((σ r_Nought0_lawsNow) 0) (σ r_Nought0_lawsR) 100000) ∧ (i32 ((σ r_WA_modulesKnown) 0)) ∧ ((σ r_WA_modulesKnown) 0 = -9 ∨ (σ r_WA_modulesKnown) 0 = wyF 2 p n D (σ r_Nought0_lengths) ((σ r_Nought0_lawsNow) 0) (σ r_Nought0_lawsR) 65536) ∧ (R01 (σ r_Elements_isKept)) ∧ (R97 (σ r_Elements_slotRowsR))
def iM (σ : en_m) (n D p : Int) (LW : Int → (Int → Int) → Prop) : Prop := (mI σ n D p) ∧ (∀ x, -128 ≤ (σ r_Md_tape) x ∧ (σ r_Md_tape) x ≤ 127) ∧ (kyQ (σ r_Md_keys)) ∧ (R97 (σ r_Md_pile)) ∧ (R97 (σ r_Md_made)) ∧ (R97 (σ r_Md_kept)) ∧ (R97 (σ r_Md_row)) ∧ (R97 (σ r_Md_first)) ∧ (R97 (σ r_Md_then)) ∧ (R97 (σ r_Md_given)) ∧ (R97 (σ r_Md_lawRow)) ∧ (R97 (σ r_Md_square)) ∧ (R97 (σ r_Md_matrix)) ∧ (R97 (σ r_Md_element)) ∧ (R97 (σ r_Md_held)) ∧ (∀ i, i32 ((σ r_Md_lawLength) i)) ∧ (R01 (σ r_Md_isLeft)) ∧ (R01 (σ r_Md_comes)) ∧ (R01 (σ r_Md_isHeld)) ∧ (mNall (σ r_Md_rowStart) (σ r_Md_rows) (σ r_Md_leads) (σ r_Md_sizes) n D p LW) ∧ (eQ ((σ r_Md_quadratic) 0) n D p ((σ r_Md_laws) ((σ r_Md_live) 0)) LW (fun i => (σ r_Md_lawLength) (8 * (σ r_Md_live) 0 + i)) (σ r_Md_rowStart) (σ r_Md_rows) (σ r_Md_leads) (σ r_Md_sizes))
def iB (σ : en_m) (n D p : Int) (LW : Int → (Int → Int) → Prop) : Prop := ((σ r_Tape_filled) 0 = (σ r_Md_taped) 0) ∧ ((σ r_Tape_bytes) = (σ r_Md_tape)) ∧ ((σ r_WA_faultPlace) 0 = (σ r_Md_place) 0) ∧ (eE n D p (σ r_Elements_rowsR) (σ r_Md_element)) ∧ (eH n D p (σ r_Elements_isKept) (σ r_Elements_slotRowsR) (σ r_Md_isHeld) (σ r_Md_held)) ∧ (eN n (σ r_WA_names) (fun j => (σ r_Md_nameOf) (4 * (σ r_Md_live) 0 + j))) ∧ ((σ r_Nought0_lawsNow) 0 = (σ r_Md_laws) ((σ r_Md_live) 0)) ∧ (eL n D p ((σ r_Nought0_lawsNow) 0) (σ r_Nought0_lengths) (σ r_Nought0_lawsR) (fun i => (σ r_Md_lawLength) (8 * (σ r_Md_live) 0 + i)) (fun x => (σ r_Md_lawRow) (2048 * (σ r_Md_live) 0 + x)))
def iV (σ : en_m) (n D p : Int) (LW : Int → (Int → Int) → Prop) : Prop := iC σ n D p LW ∧ iK σ n D p LW ∧ iM σ n D p LW ∧ iB σ n D p LW
def iX (σ : en_m) : Prop := ∃ (n D p : Int) (LW : Int → (Int → Int) → Prop), iV σ n D p LW
