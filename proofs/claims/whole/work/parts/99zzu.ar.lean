/-! the automaton's run -/
def auB (s : aS) : Prop := (0 ≤ s.1 ∧ s.1 ≤ 6) ∧ (0 ≤ s.2.1 ∧ s.2.1 ≤ 4) ∧ (0 ≤ s.2.2.1 ∧ s.2.2.1 ≤ 4) ∧ (0 ≤ s.2.2.2.1 ∧ s.2.2.2.1 ≤ 8) ∧ (s.2.2.2.2 = 0 ∨ s.2.2.2.2 = 1)
def auC (s : aS) : Prop := (0 ≤ s.1 ∧ s.1 ≤ 6) ∧ (0 ≤ s.2.1 ∧ s.2.1 ≤ 5) ∧ (0 ≤ s.2.2.1 ∧ s.2.2.1 ≤ 5) ∧ (0 ≤ s.2.2.2.1 ∧ s.2.2.2.1 ≤ 9) ∧ (s.2.2.2.2 = 0 ∨ s.2.2.2.2 = 1)
theorem fB_c {s s' : aS} {k : Int} (h : auB s) (g : fB s k = some s') : auC s' := by
  obtain ⟨a, b, c, d, e⟩ := h
  unfold fB at g
  by_cases h1 : k = 11
  · rw [if_pos h1] at g; cases g; exact ⟨by dsimp only; omega, by dsimp only; omega, by dsimp only; omega, by dsimp only; omega, e⟩
  rw [if_neg h1] at g
  by_cases h2 : k = 5
  · rw [if_pos h2] at g; cases g; exact ⟨by dsimp only; omega, by dsimp only; omega, by dsimp only; omega, by dsimp only; omega, e⟩
  rw [if_neg h2] at g
  cases g
theorem mB_c {s s' : aS} {k : Int} (h : auB s) (g : mB s k = some s') : auC s' := by
  unfold mB at g
  by_cases h1 : k = 6
  · rw [if_pos h1] at g
    obtain ⟨a, b, c, d, e⟩ := h
    cases g; exact ⟨by dsimp only; omega, by dsimp only; omega, by dsimp only; omega, by dsimp only; omega, e⟩
  rw [if_neg h1] at g
  exact fB_c h g
theorem tB_c {s s' : aS} {k : Int} (h : auB s) (g : tB s k = some s') : auC s' := by
  obtain ⟨a, b, c, d, e⟩ := h
  unfold tB at g
  by_cases h1 : k = 1 ∨ k = 3
  · rw [if_pos h1] at g; cases g; exact ⟨by dsimp only; omega, by dsimp only; omega, by dsimp only; omega, by dsimp only; omega, e⟩
  rw [if_neg h1] at g
  by_cases h2 : k = 2
  · rw [if_pos h2] at g; cases g; exact ⟨by dsimp only; omega, by dsimp only; omega, by dsimp only; omega, by dsimp only; omega, e⟩
  rw [if_neg h2] at g
  by_cases h3 : k = 4
  · rw [if_pos h3] at g; cases g; exact ⟨by dsimp only; omega, by dsimp only; omega, by dsimp only; omega, by dsimp only; omega, .inr rfl⟩
  rw [if_neg h3] at g
  cases g
theorem tG_c {al : Int} {s s' : aS} {k : Int} (h : auB s) (g : tG al s k = some s') : auC s' := by
  unfold tG at g
  by_cases h5 : k = 9 ∨ k = 10 ∨ k = 12 ∨ k = 8 ∨ k = 7
  · obtain ⟨a, b, c, d, e⟩ := h
    by_cases h1 : k = 9 ∨ k = 10
    · rw [if_pos h1] at g; cases g; exact ⟨by dsimp only; omega, by dsimp only; omega, by dsimp only; omega, by dsimp only; omega, e⟩
    rw [if_neg h1] at g
    by_cases h2 : k = 12
    · rw [if_pos h2] at g
      by_cases q : 1 ≤ s.2.1
      · rw [if_pos q] at g; cases g; exact ⟨by dsimp only; omega, by dsimp only; omega, by dsimp only; omega, by dsimp only; omega, e⟩
      · rw [if_neg q] at g; cases g
    rw [if_neg h2] at g
    by_cases h3 : k = 8
    · rw [if_pos h3] at g
      by_cases q : s.2.1 = 0 ∧ al = 0 ∧ ¬ s.2.2.2.2 = 0
      · rw [if_pos q] at g; cases g; exact ⟨by dsimp only; omega, by dsimp only; omega, by dsimp only; omega, by dsimp only; omega, .inl rfl⟩
      · rw [if_neg q] at g; cases g
    rw [if_neg h3] at g
    by_cases h4 : k = 7
    · rw [if_pos h4] at g
      by_cases q : s.2.1 = 0 ∧ al = 0
      · rw [if_pos q] at g; cases g; exact ⟨by dsimp only; omega, by dsimp only; omega, by dsimp only; omega, by dsimp only; omega, e⟩
      · rw [if_neg q] at g; cases g
    omega
  · rw [if_neg (by omega), if_neg (by omega), if_neg (by omega), if_neg (by omega)] at g
    exact fB_c h g
theorem gO_c {al : Int} {s s' : aS} {k : Int} (h : auB s) (g : gO al s k = some s') : auC s' := by
  unfold gO at g
  by_cases h0 : s.1 = 0
  · rw [if_pos h0] at g; exact tB_c h g
  rw [if_neg h0] at g
  by_cases h1 : s.1 = 1 ∨ s.1 = 2 ∨ s.1 = 3
  · obtain ⟨a, b, c, d, e⟩ := h
    have key : ∀ x : Int, 0 ≤ x ∧ x ≤ 6 → auC (x, s.2) := fun x hx => ⟨hx, by dsimp only; omega, by dsimp only; omega, by dsimp only; omega, e⟩
    rcases h1 with q | q | q
    · rw [if_pos q] at g
      by_cases r : k = 6
      · rw [if_pos r] at g; cases g; exact key 3 (by decide)
      · rw [if_neg r] at g; cases g
    · rw [if_neg (by omega), if_pos q] at g
      by_cases r : k = 5
      · rw [if_pos r] at g; cases g; exact key 3 (by decide)
      · rw [if_neg r] at g; cases g
    · rw [if_neg (by omega), if_neg (by omega), if_pos q] at g
      by_cases r : k = 7
      · rw [if_pos r] at g; cases g; exact key 0 (by decide)
      · rw [if_neg r] at g; cases g
  rw [if_neg (by omega), if_neg (by omega), if_neg (by omega)] at g
  by_cases h4 : s.1 = 4
  · rw [if_pos h4] at g
    by_cases r : k = 10
    · rw [if_pos r] at g
      obtain ⟨a, b, c, d, e⟩ := h
      cases g; exact ⟨by dsimp only; omega, by dsimp only; omega, by dsimp only; omega, by dsimp only; omega, e⟩
    · rw [if_neg r] at g; exact mB_c h g
  rw [if_neg h4] at g
  by_cases h5 : s.1 = 5
  · rw [if_pos h5] at g; exact mB_c h g
  rw [if_neg h5] at g
  exact tG_c h g
/-- too much: more than 400 tokens, 4 letters, 8 laws, 4 brackets -/
def tmu (k : Int) (s : aS) : Prop := 400 ≤ k ∨ 4 < s.2.2.1 ∨ 8 < s.2.2.2.1 ∨ 4 < s.2.1
noncomputable def nxt (al : Int) (b : Int → Int) (N : Int) (k : Nat) (s : aS) : Option aS := if N ≤ tp b N k then none else match gO al s (kd b N (tp b N k)) with
  | none => none
  | some s' => @ite (Option aS) (tmu k s') (Classical.propDecidable _) none (some s')
noncomputable def flt (al : Int) (b : Int → Int) (N : Int) (k : Nat) (s : aS) : Int := match gO al s (kd b N (tp b N k)) with
  | none => 1
  | some s' => @ite Int (tmu k s') (Classical.propDecidable _) 2 0
/-- what is told behind k tokens, if no fault comes before -/
noncomputable def stT (al : Int) (b : Int → Int) (N : Int) : Nat → Option aS
  | 0 => some (if al = 0 then 0 else 4, 0, 0, 0, 0)
  | k + 1 => match stT al b N k with
    | none => none
    | some s => nxt al b N k s
def whl (al : Int) (s : aS) : Prop := if al = 0 then s.1 = 0 else s.1 = 6 ∧ s.2.1 = 0
/-- how a text ends: T tokens without a fault, the fault behind them (or none), its place -/
def tkO (al : Int) (b : Int → Int) (N : Int) (T : Nat) (r pl : Int) : Prop := ∃ s, stT al b N T = some s ∧ ((N ≤ tp b N T ∧ whl al s ∧ r = 0 ∧ pl = -1) ∨ (N ≤ tp b N T ∧ ¬ whl al s ∧ r = 1 ∧ pl = N) ∨ (tp b N T < N ∧ ¬ flt al b N T s = 0 ∧ r = flt al b N T s ∧ pl = tp b N T))
/-- the tokens kept -/
def tkK (b : Int → Int) (N m : Int) (K P NU PK : Int → Int) : Prop := ∀ j, 0 ≤ j → j < m → tp b N j.toNat < N ∧ K j = kd b N (tp b N j.toNat) ∧ P j = tp b N j.toNat ∧ (K j = 6 → NU j = df b (tp b N j.toNat) (te b N (tp b N j.toNat) - tp b N j.toNat).toNat) ∧ (K j = 5 → PK j = wf 32 b (tp b N j.toNat) (te b N (tp b N j.toNat) - tp b N j.toNat).toNat)
section ARN
variable {al N : Int} {b : Int → Int} {k : Nat} {s s' : aS}
theorem nxt_ok (hl : tp b N k < N) (h : gO al s (kd b N (tp b N k)) = some s') (g : ¬ tmu k s') : nxt al b N k s = some s' := by
  unfold nxt
  rw [if_neg (by omega), h]
  exact if_neg g
theorem flt_1 (h : gO al s (kd b N (tp b N k)) = none) : flt al b N k s = 1 := by
  unfold flt
  rw [h]
theorem flt_2 (h : gO al s (kd b N (tp b N k)) = some s') (g : tmu k s') : flt al b N k s = 2 := by
  unfold flt
  rw [h]
  exact if_pos g
theorem stT_s (h : stT al b N k = some s) : stT al b N (k + 1) = nxt al b N k s := by
  show (match stT al b N k with | none => none | some s => nxt al b N k s) = _
  rw [h]
theorem auB_of (h : auC s) (g : ¬ tmu k s) : auB s := by
  obtain ⟨a, b, c, d, e⟩ := h
  unfold tmu at g
  exact ⟨a, ⟨b.1, by omega⟩, ⟨c.1, by omega⟩, ⟨d.1, by omega⟩, e⟩
theorem auB_0 : auB (if al = 0 then 0 else 4, 0, 0, 0, 0) := by
  refine ⟨?_, by dsimp only; decide, by dsimp only; decide, by dsimp only; decide, .inl rfl⟩
  show 0 ≤ (if al = 0 then (0 : Int) else 4) ∧ (if al = 0 then (0 : Int) else 4) ≤ 6
  by_cases h : al = 0
  · rw [if_pos h]; decide
  · rw [if_neg h]; decide
theorem tkK_0 {K P NU PK : Int → Int} : tkK b N 0 K P NU PK := fun j a c => by omega
theorem tkK_s {m at_ e kk n p : Int} {K P NU PK : Int → Int} (hm : 0 ≤ m) (h : tkK b N m K P NU PK) (ha : at_ = tp b N m.toNat) (hl : at_ < N) (hs : scn b N at_ e kk n p) : tkK b N (m + 1) (up K m kk) (up P m at_) (up NU m n) (up PK m p) := by
  intro j a c
  by_cases q : j = m
  · subst q
    rw [up_eq, up_eq, up_eq, up_eq, ← ha]
    exact ⟨hl, hs.2.1, rfl, hs.2.2.1, hs.2.2.2⟩
  · rw [up_ne q, up_ne q, up_ne q, up_ne q]
    exact h j a (by omega)
theorem tp_s {m at_ e kk n p : Int} (hm : 0 ≤ m) (ha : at_ = tp b N m.toNat) (hs : scn b N at_ e kk n p) : sk b N e = tp b N (m + 1).toNat := by
  rw [show (m + 1).toNat = m.toNat + 1 by omega]
  show _ = sk b N (te b N (tp b N m.toNat))
  rw [← ha, hs.1]
end ARN
section TKE
variable {al N : Int} {b : Int → Int} {k at9 A r pl : Int} {s s' : aS} {K P NU PK : Int → Int}
theorem take_w (hk : 0 ≤ k ∧ k ≤ 400) (hat : at9 = tp b N k.toNat) (h : N ≤ at9) (hst : stT al b N k.toNat = some s) (hK : tkK b N k K P NU PK) (hA : A = k) (ho : (whl al s ∧ r = 0 ∧ pl = -1) ∨ (¬ whl al s ∧ r = 1 ∧ pl = N)) : ∃ T : Nat, A = T ∧ (T : Int) ≤ 400 ∧ tkO al b N T r pl ∧ tkK b N T K P NU PK := by
  refine ⟨k.toNat, by omega, by omega, ⟨s, hst, ?_⟩, by rw [show ((k.toNat : Nat) : Int) = k by omega]; exact hK⟩
  rcases ho with g | g
  · exact .inl ⟨by omega, g⟩
  · exact .inr (.inl ⟨by omega, g⟩)
theorem take_f (hk : 0 ≤ k ∧ k ≤ 400) (hat : at9 = tp b N k.toNat) (h : at9 < N) (hst : stT al b N k.toNat = some s) (hK : tkK b N k K P NU PK) (hA : A = k) (hr : ¬ r = 0) (hf : flt al b N k.toNat s = r) (hp : pl = at9) : ∃ T : Nat, A = T ∧ (T : Int) ≤ 400 ∧ tkO al b N T r pl ∧ tkK b N T K P NU PK :=
  ⟨k.toNat, by omega, by omega, ⟨s, hst, .inr (.inr ⟨by omega, by rw [hf]; exact hr, hf.symm, by omega⟩)⟩, by rw [show ((k.toNat : Nat) : Int) = k by omega]; exact hK⟩
theorem take_1 {e kk n p : Int} (hat : at9 = tp b N k.toNat) (hs : scn b N at9 e kk n p) (hg : gO al s kk = none) : flt al b N k.toNat s = 1 := flt_1 (by rw [← hat, ← hs.2.1]; exact hg)
theorem take_2 {e kk n p : Int} (hk : 0 ≤ k) (hat : at9 = tp b N k.toNat) (hs : scn b N at9 e kk n p) (hg : gO al s kk = some s') (ht : tmu k s') : flt al b N k.toNat s = 2 := flt_2 (by rw [← hat, ← hs.2.1]; exact hg) (by rw [show ((k.toNat : Nat) : Int) = k by omega]; exact ht)
theorem take_s {e kk n p : Int} (hl : at9 < N) (hk : 0 ≤ k) (hat : at9 = tp b N k.toNat) (hs : scn b N at9 e kk n p) (hst : stT al b N k.toNat = some s) (hg : gO al s kk = some s') (ht : ¬ tmu k s') : stT al b N (k + 1).toNat = some s' := by
  rw [show (k + 1).toNat = k.toNat + 1 by omega, stT_s hst]
  exact nxt_ok (by omega) (by rw [← hat, ← hs.2.1]; exact hg) (by rw [show ((k.toNat : Nat) : Int) = k by omega]; exact ht)
end TKE
theorem sk_k {b : Int → Int} {N a i r : Int} (h : r = sk b N i) (hi : a < i ∧ i ≤ N) : a < r ∧ r ≤ N := by
  have g := (rn_b (q := fun j => isBl (b j)) (N := N) (i := i) hi.2).1
  rw [show rn (fun j => isBl (b j)) N i = r from h.symm] at g
  omega
