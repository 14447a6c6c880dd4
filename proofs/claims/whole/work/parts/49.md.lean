/-! the dual's laws, and the model's whole work of one length -/
theorem nf_neg {p W : Int} {V : (Int → Int) → Prop} (hV : vSub p W V) (hp : 0 < p) {a b X Y : Int → Int} (hab : V (fun j => a j + b j)) (h1 : isNF p W V a X) (h2 : isNF p W V b Y) : ∀ j, 0 ≤ j → j < W → mE p (X j) (-(Y j)) := by
  have hd : V (fun j => X j + Y j) := by
    have g1 := vS_add hV hab h1.1 (-1)
    have g2 := vS_add hV g1 h2.1 (-1)
    refine vS_ext hV g2 (fun j _ _ => mE_of ?_)
    show a j + b j + -1 * (a j - X j) + -1 * (b j - Y j) = X j + Y j
    omega
  rcases top_ex p (fun j => X j + Y j) W.toNat with h3 | ⟨k, h3, h4, h5, h6⟩
  · intro j g0 g1
    have := h3 j g0 (by omega)
    show p ∣ X j - -(Y j)
    rw [Int.sub_neg]
    exact this
  · exfalso
    have ht : hasTop p W V k := ⟨_, hd, h5, fun j g0 g1 => h6 j g0 (by omega)⟩
    apply h5
    show p ∣ X k + Y k
    rw [h1.2.2 k h3 (by omega) ht, h2.2.2 k h3 (by omega) ht]
    exact ⟨0, by omega⟩
theorem nf_self {p W w : Int} {V : (Int → Int) → Prop} (hV : vSub p W V) (hp : 2 ≤ p) (hw : ¬ hasTop p W V w) : isNF p W V (eW w) (eW w) := by
  refine ⟨vS_ext hV hV.1 (fun j _ _ => mE_of (by show (0 : Int) = eW w j - eW w j; omega)), fun j _ _ => by unfold eW; split <;> omega, fun k _ _ ht => ?_⟩
  unfold eW
  rw [if_neg]
  intro e
  rw [e] at ht
  exact hw ht
theorem xl_c {W x : Int} {a b : Int → Int} (h : ∀ j, 0 ≤ j → j < W → a j = b j) (j : Int) : xl W x a j = xl W x b j := by
  unfold xl
  split
  · exact h _ (by omega) (by omega)
  · rfl
theorem xr_c {W n x : Int} {a b : Int → Int} (hn : 0 < n) (h : ∀ j, 0 ≤ j → j < W → a j = b j) (j : Int) (h0 : 0 ≤ j) (h1 : j < W * n) : xr n x a j = xr n x b j := by
  unfold xr
  split
  · exact h _ (Int.ediv_nonneg h0 (by omega)) (Int.ediv_lt_of_lt_mul hn h1)
  · rfl
/-- the laws of the dual: a row for each word that is plain -/
def dRow (p W : Int) (V : (Int → Int) → Prop) (k : Int) (r : Int → Int) : Prop := ∀ w, 0 ≤ w → w < W → ∀ X, isNF p W V (eW w) X → mE p (r w) (X k)
def dLW (n D p : Int) (LW : Int → (Int → Int) → Prop) (d : Int) (r : Int → Int) : Prop := d = 2 ∧ ∃ k, 0 ≤ k ∧ k < sW n D 2 ∧ ¬ hasTop p (sW n D 2) (nV n D p LW 2) k ∧ dRow p (sW n D 2) (nV n D p LW 2) k r
theorem nV_modelI {n D p q d : Int} {LW : Int → (Int → Int) → Prop} (hO : sOk n D q) (hp : sPr p) (hd : 1 ≤ d ∧ d ≤ D) {R : Int → Int → Int} {L : Int → Int} (h1 : mD p (sW n D (d - 1)) (nV n D p LW (d - 1).toNat) R L) {V2 : (Int → Int) → Prop} (hV2 : vSub p (sW n D d) V2)
    (hC : ∀ w, 0 ≤ w → w < sW n D (d - 1) → L w = 1 → ∀ x, 0 ≤ x → x < n → V2 (xl (sW n D (d - 1)) x (R w)) ∧ V2 (xr n x (R w))) (hD : ∀ r, LW d r → V2 r) (hA : ∀ v, V2 v → nV n D p LW d.toNat v) : V2 = nV n D p LW d.toNat := by
  obtain ⟨m, rfl⟩ : ∃ m : Nat, d = (m : Int) + 1 := ⟨(d - 1).toNat, by omega⟩
  rw [show ((m : Int) + 1).toNat = m + 1 by omega] at hA ⊢
  rw [show (m : Int) + 1 - 1 = m by omega] at h1 hC
  rw [show ((m : Int)).toNat = m by omega] at h1
  refine nV_model hO hp hd.2 h1 ?_ hC hD hA
  rwa [← sW_succ (by omega) (by omega)]
theorem nf_src {p W : Int} {V : (Int → Int) → Prop} (hV : vSub p W V) {a b X : Int → Int} (h : isNF p W V a X) (e : ∀ j, 0 ≤ j → j < W → a j = b j) : isNF p W V b X :=
  ⟨vS_ext hV h.1 (fun j h0 h1 => mE_of (by show a j - X j = b j - X j; rw [e j h0 h1])), h.2⟩
theorem pl_back {W k : Int} {X Y r : Int → Int} (hY : Y = seg X 0 k r) (hX : ∀ j, ¬ (0 ≤ j ∧ j < W) → X j = r j) (hk : k = W) : Y = r := by
  funext j
  rw [hY, hk]
  unfold seg
  split
  · rw [Int.sub_zero]
  · exact hX j (by omega)
theorem nf_negx {p W : Int} {V : (Int → Int) → Prop} (hV : vSub p W V) (hp : 2 ≤ p) {a b Y : Int → Int} (hab : V (fun j => a j + b j)) (h : isNF p W V b Y) : isNF p W V a (fun j => (-(Y j)) % p) := by
  refine ⟨?_, fun j _ _ => ⟨Int.emod_nonneg _ (by omega), Int.emod_lt_of_pos _ (by omega)⟩, fun k h0 h1 ht => ?_⟩
  · refine vS_ext hV (vS_add hV hab h.1 (-1)) (fun j _ _ => ?_)
    show mE p (a j + b j + -1 * (b j - Y j)) (a j - (-(Y j)) % p)
    refine mE_trans (mE_of ?_) (mE_sub (mE_rfl p (a j)) (mE_symm (mE_emod p (-(Y j)))))
    omega
  · show (-(Y k)) % p = 0
    rw [h.2.2 k h0 h1 ht]
    exact Int.zero_emod p
/-- the dual's row of a plain word, built cell by cell -/
def djI (p W : Int) (V : (Int → Int) → Prop) (w x : Int) (B : Int → Int) : Prop := ∀ j, 0 ≤ j → j < W → (j < x → ∃ X, isNF p W V (eW j) X ∧ mE p (B j) (X w)) ∧ (x ≤ j → B j = if j = w then 1 else 0)
theorem dj_0 {p W w : Int} {V : (Int → Int) → Prop} {A B : Int → Int} (hB : B = seg A 0 W (fun j => if j = w then 1 else 0)) : djI p W V w 0 B := fun j h0 h1 => ⟨fun h => by omega, fun _ => by rw [hB, seg_in0 ⟨h0, h1⟩]⟩
theorem dj_n {p W w x : Int} {V : (Int → Int) → Prop} {B : Int → Int} (hV : vSub p W V) (hp : 2 ≤ p) (h : djI p W V w x B) (hx : ¬ hasTop p W V x) (h0 : 0 ≤ x) (h1 : x < W) : djI p W V w (x + 1) B := fun j g0 g1 => by
  refine ⟨fun h2 => ?_, fun h2 => (h j g0 g1).2 (by omega)⟩
  by_cases e : j = x
  · refine ⟨eW j, nf_self hV hp (by rw [e]; exact hx), mE_of ?_⟩
    rw [(h j g0 g1).2 (by omega)]
    unfold eW
    by_cases c : j = w
    · rw [if_pos c, if_pos c.symm]
    · rw [if_neg c, if_neg (fun q => c q.symm)]
  · exact (h j g0 g1).1 (by omega)
theorem dj_l {p W w x r : Int} {V : (Int → Int) → Prop} {B X R : Int → Int} (hV : vSub p W V) (hp : 2 ≤ p) (h : djI p W V w x B) (h0 : 0 ≤ x) (h1 : x < W) (hR : V R) (hRx : R x = 1) (hX : isNF p W V (fun j => if j = x then 0 else R j) X) (hr : r = X w) : djI p W V w (x + 1) (up B x ((-r) % p)) := fun j g0 g1 => by
  refine ⟨fun h2 => ?_, fun h2 => by rw [up_ne (by omega)]; exact (h j g0 g1).2 (by omega)⟩
  by_cases e : j = x
  · refine ⟨_, nf_negx hV hp (a := eW j) (vS_ext hV hR (fun i _ _ => mE_of ?_)) hX, mE_of ?_⟩
    · show R i = eW j i + (if i = x then 0 else R i)
      unfold eW
      rw [e]
      by_cases c : i = x
      · rw [if_pos c, if_pos c, c, hRx]; rfl
      · rw [if_neg c, if_neg c]; omega
    · rw [e, up_eq, hr]
  · rw [up_ne e]
    exact (h j g0 g1).1 (by omega)
theorem dj_row {p W w x : Int} {V : (Int → Int) → Prop} {B : Int → Int} (hV : vSub p W V) (hW : 0 ≤ W) (h : djI p W V w x B) (hx : W ≤ x) (hw : 0 ≤ w ∧ w < W) : dRow p W V w B ∧ ∀ r, dRow p W V w r → ∀ j, 0 ≤ j → j < W → mE p (B j) (r j) := by
  constructor
  · intro j h0 h1 X hX
    obtain ⟨Y, hY, e⟩ := (h j h0 h1).1 (by omega)
    have := nf_uniq hV hW (vS_ext hV hV.1 (fun i _ _ => mE_of (by show (0 : Int) = eW j i - eW j i; omega))) hY hX w hw.1 hw.2
    rw [← this]; exact e
  · intro r hr j h0 h1
    obtain ⟨Y, hY, e⟩ := (h j h0 h1).1 (by omega)
    exact mE_trans e (mE_symm (hr j h0 h1 Y hY))
theorem up_r {B : Int → Int} {x v j p : Int} (h : 0 ≤ B j ∧ B j < p) (hv : 0 ≤ v ∧ v < p) : 0 ≤ up B x v j ∧ up B x v j < p := by
  unfold up
  split
  · exact hv
  · exact h
