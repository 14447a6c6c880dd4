/-! what stood in the rows before makes no difference -/
noncomputable def lgV (K : Int → Int) (m fr : Int) : Int := max ((lgN K fr (fun _ => 0) (fun _ => 0) (enD K m fr - fr).toNat).2.1 0) ((lgN K fr (fun _ => 0) (fun _ => 0) (enD K m fr - fr).toNat).2.2 0)
noncomputable def evV (n D p : Int) (K V : Int → Int) (m fr : Int) : Int → Int := aR p 0 (evN n D p K V fr (fun _ => 0) (fun _ => 0) (enD K m fr - fr).toNat).2.1 (evN n D p K V fr (fun _ => 0) (fun _ => 0) (enD K m fr - fr).toNat).2.2
def lgE (s s' : Int × (Int → Int) × (Int → Int)) : Prop := s.1 = s'.1 ∧ ∀ l, 0 ≤ l → l ≤ s.1 → s.2.1 l = s'.2.1 l ∧ s.2.2 l = s'.2.2 l
theorem up_c {f g : Int → Int} {i l v w : Int} (h : ¬ l = i → f l = g l) (e : l = i → v = w) : up f i v l = up g i w l := by
  by_cases q : l = i
  · rw [q, up_eq, up_eq]; exact e q
  · rw [up_ne q, up_ne q]; exact h q
theorem lgs_E {K : Int → Int} {i : Int} {s s' : Int × (Int → Int) × (Int → Int)} (h0 : 0 ≤ s.1) (h : lgE s s') (hd : K i = 12 → 1 ≤ s.1) : lgE (lgs K i s) (lgs K i s') ∧ 0 ≤ (lgs K i s).1 := by
  obtain ⟨d, A, B⟩ := s
  obtain ⟨d', A', B'⟩ := s'
  obtain ⟨e, h⟩ := h
  dsimp only at e h h0 hd
  subst e
  by_cases h1 : K i = 5
  · rw [lgs_5 h1, lgs_5 h1]
    refine ⟨⟨rfl, fun l a b => ⟨(h l a b).1, up_c (fun _ => (h l a b).2) (fun _ => by rw [(h d h0 (Int.le_refl _)).2])⟩⟩, h0⟩
  by_cases h2 : K i = 9 ∨ K i = 10
  · rw [lgs_9 h2, lgs_9 h2]
    have k := h d h0 (Int.le_refl _)
    refine ⟨⟨rfl, fun l a b => ⟨up_c (fun _ => (h l a b).1) (fun _ => by rw [k.1, k.2]), up_c (fun _ => (h l a b).2) (fun _ => rfl)⟩⟩, h0⟩
  by_cases h3 : K i = 11
  · rw [lgs_11 h3, lgs_11 h3]
    refine ⟨⟨rfl, fun l a b => ⟨up_c (fun q => (h l a (by dsimp only at b; omega)).1) (fun _ => rfl), up_c (fun q => (h l a (by dsimp only at b; omega)).2) (fun _ => rfl)⟩⟩, by show 0 ≤ min (d + 1) 4; omega⟩
  by_cases h4 : K i = 12
  · rw [lgs_12 h4, lgs_12 h4]
    have k := h d h0 (Int.le_refl _)
    have hd1 := hd h4
    have k2 := h (max (d - 1) 0) (by omega) (by omega)
    refine ⟨⟨rfl, fun l a b => ⟨(h l a (by dsimp only at b; omega)).1, up_c (fun q => (h l a (by dsimp only at b; omega)).2) (fun _ => by rw [k.1, k.2, k2.2])⟩⟩, by show 0 ≤ max (d - 1) 0; omega⟩
  · rw [lgs_0 (by omega), lgs_0 (by omega)]
    exact ⟨⟨rfl, h⟩, h0⟩
theorem lgN_E {K : Int → Int} {fr : Int} {S T S' T' : Int → Int} : ∀ k : Nat, (∀ j : Nat, j < k → K (fr + j) = 12 → 1 ≤ dpN K fr j) → lgE (lgN K fr S T k) (lgN K fr S' T' k) ∧ 0 ≤ (lgN K fr S T k).1
  | 0, _ => ⟨⟨rfl, fun l a b => by
      have e : l = 0 := by have : l ≤ (0 : Int) := b; omega
      rw [e]
      refine ⟨?_, ?_⟩
      · show up S 0 0 0 = up S' 0 0 0
        rw [up_eq, up_eq]
      · show up T 0 0 0 = up T' 0 0 0
        rw [up_eq, up_eq]⟩, Int.le_refl 0⟩
  | k + 1, h => by
    have ih := lgN_E (S := S) (T := T) (S' := S') (T' := T') k (fun j a b => h j (by omega) b)
    exact lgs_E ih.2 ih.1 (fun q => by rw [dpN_lg]; exact h k (by omega) q)
theorem lgR_V {K : Int → Int} {m fr : Int} {S T : Int → Int} (hm : fr ≤ m) (h : dOk K m fr) : lgR K m fr S T = lgV K m fr := by
  have k := lgN_E (S := S) (T := T) (S' := fun _ => 0) (T' := fun _ => 0) (enD K m fr - fr).toNat (fun j a b => by
    have := h (fr + j) (by omega) (by omega) b
    rw [show (fr + (j : Int) - fr).toNat = j by omega] at this
    exact this)
  have k0 := k.1.2 0 (Int.le_refl 0) k.2
  unfold lgR lgV
  rw [k0.1, k0.2]
def evE (s s' : evT) : Prop := s.1 = s'.1 ∧ ∀ l, 0 ≤ l → l ≤ s.1 → ∀ x, 0 ≤ x → x < 364 → s.2.1 (l * 364 + x) = s'.2.1 (l * 364 + x) ∧ s.2.2 (l * 364 + x) = s'.2.2 (l * 364 + x)
theorem sg_c {f g a b : Int → Int} {d l x : Int} (hx : 0 ≤ x ∧ x < 364) (h : ¬ l = d → f (l * 364 + x) = g (l * 364 + x)) (e : l = d → a x = b x) : seg f (d * 364) 364 a (l * 364 + x) = seg g (d * 364) 364 b (l * 364 + x) := by
  by_cases q : l = d
  · rw [q, seg_in hx, seg_in hx]; exact e q
  · rw [seg_out (by omega), seg_out (by omega)]; exact h q
theorem prd_e {n D p : Int} {a b a' b' : Int → Int} (hO : sOk n D p) (ha : ∀ x, 0 ≤ x → x < 364 → a x = a' x) (hb : ∀ x, 0 ≤ x → x < 364 → b x = b' x) (y : Int) : prd n D a b y = prd n D a' b' y := by
  have hs := sS_b (k := D + 1) hO
  refine sm_ext _ (fun u u0 u1 => sm_ext _ (fun v v0 v1 => ?_))
  unfold pTm
  rw [ha u u0 (by omega), hb v v0 (by omega)]
section OPC
variable {n D p d l x s v : Int} {S T S' T' : Int → Int}
theorem uR_c (hx : 0 ≤ x ∧ x < 364) (h : ¬ l = d → T (l * 364 + x) = T' (l * 364 + x)) : uR p d s T (l * 364 + x) = uR p d s T' (l * 364 + x) := sg_c hx h (fun _ => rfl)
theorem aR_c (hx : 0 ≤ x ∧ x < 364) (h : S (l * 364 + x) = S' (l * 364 + x)) (g : l = d → T (d * 364 + x) = T' (d * 364 + x)) : aR p d S T (l * 364 + x) = aR p d S' T' (l * 364 + x) := sg_c hx (fun _ => h) (fun e => by
  subst e
  show (S (l * 364 + x) + T (l * 364 + x)) % p = (S' (l * 364 + x) + T' (l * 364 + x)) % p
  rw [h, g rfl])
theorem nR_c (hx : 0 ≤ x ∧ x < 364) (h : T (l * 364 + x) = T' (l * 364 + x)) : nR p d v T (l * 364 + x) = nR p d v T' (l * 364 + x) := sg_c hx (fun _ => h) (fun e => by
  subst e
  show (T (l * 364 + x) * v) % p = (T' (l * 364 + x) * v) % p
  rw [h])
theorem lR_c (hO : sOk n D p) (hx : 0 ≤ x ∧ x < 364) (h : T (l * 364 + x) = T' (l * 364 + x)) (g : l = d → ∀ u, 0 ≤ u → u < 364 → T (d * 364 + u) = T' (d * 364 + u)) : lR n D p d v T (l * 364 + x) = lR n D p d v T' (l * 364 + x) := sg_c hx (fun _ => h) (fun e => by
  show prd n D (fun u => T (d * 364 + u)) (eLt v) x % p = prd n D (fun u => T' (d * 364 + u)) (eLt v) x % p
  rw [prd_e hO (a := fun u => T (d * 364 + u)) (a' := fun u => T' (d * 364 + u)) (fun u a b => g e u a b) (fun _ _ _ => rfl)])
theorem mR_c (hO : sOk n D p) (hx : 0 ≤ x ∧ x < 364) (h : T (l * 364 + x) = T' (l * 364 + x)) (g : l = d → ∀ u, 0 ≤ u → u < 364 → T (d * 364 + u) = T' (d * 364 + u)) (g2 : l = d → ∀ u, 0 ≤ u → u < 364 → S ((d + 1) * 364 + u) = S' ((d + 1) * 364 + u)) : mR n D p d S T (l * 364 + x) = mR n D p d S' T' (l * 364 + x) := sg_c hx (fun _ => h) (fun e => by
  show prd n D (fun u => T (d * 364 + u)) (fun u => S ((d + 1) * 364 + u)) x % p = prd n D (fun u => T' (d * 364 + u)) (fun u => S' ((d + 1) * 364 + u)) x % p
  rw [prd_e hO (a := fun u => T (d * 364 + u)) (a' := fun u => T' (d * 364 + u)) (b := fun u => S ((d + 1) * 364 + u)) (b' := fun u => S' ((d + 1) * 364 + u)) (fun u a b => g e u a b) (fun u a b => g2 e u a b)])
theorem zR_c (hx : 0 ≤ x ∧ x < 364) (h : ¬ l = d → S (l * 364 + x) = S' (l * 364 + x)) : seg S (d * 364) 364 (fun _ => 0) (l * 364 + x) = seg S' (d * 364) 364 (fun _ => 0) (l * 364 + x) := sg_c hx h (fun _ => rfl)
end OPC
theorem evs_E {n D p : Int} {K V : Int → Int} {fr i : Int} {s s' : evT} (hO : sOk n D p) (h0 : 0 ≤ s.1 ∧ s.1 ≤ 4) (h : evE s s') (hd : ¬ (K i = 5 ∨ K i = 6 ∨ K i = 9 ∨ K i = 10 ∨ K i = 11) → 1 ≤ s.1) : evE (evs n D p K V fr i s) (evs n D p K V fr i s') ∧ 0 ≤ (evs n D p K V fr i s).1 ∧ (evs n D p K V fr i s).1 ≤ 4 := by
  obtain ⟨d, A, B⟩ := s
  obtain ⟨d', A', B'⟩ := s'
  obtain ⟨e, h⟩ := h
  dsimp only at e h h0 hd
  subst e
  have kd := h d h0.1 (Int.le_refl _)
  have hA : ∀ l, 0 ≤ l → l ≤ d → ∀ x, 0 ≤ x → x < 364 → aR p d A B (l * 364 + x) = aR p d A' B' (l * 364 + x) := fun l a b x x0 x1 => aR_c ⟨x0, x1⟩ (h l a b x x0 x1).1 (fun _ => (kd x x0 x1).2)
  by_cases h1 : K i = 5
  · rw [evs_5 h1, evs_5 h1]
    exact ⟨⟨rfl, fun l a b x x0 x1 => ⟨(h l a b x x0 x1).1, lR_c hO ⟨x0, x1⟩ (h l a b x x0 x1).2 (fun _ u u0 u1 => (kd u u0 u1).2)⟩⟩, h0⟩
  by_cases h6 : K i = 6
  · rw [evs_6 h6, evs_6 h6]
    exact ⟨⟨rfl, fun l a b x x0 x1 => ⟨(h l a b x x0 x1).1, nR_c ⟨x0, x1⟩ (h l a b x x0 x1).2⟩⟩, h0⟩
  by_cases h9 : K i = 9 ∨ K i = 10
  · by_cases g : fr < i ∧ ¬ K (i - 1) = 11
    · rw [evs_9 h9 g rfl, evs_9 h9 g rfl]
      exact ⟨⟨rfl, fun l a b x x0 x1 => ⟨hA l a b x x0 x1, uR_c ⟨x0, x1⟩ (fun _ => (h l a b x x0 x1).2)⟩⟩, h0⟩
    · rw [evs_9' h9 g rfl, evs_9' h9 g rfl]
      exact ⟨⟨rfl, fun l a b x x0 x1 => ⟨(h l a b x x0 x1).1, uR_c ⟨x0, x1⟩ (fun _ => (h l a b x x0 x1).2)⟩⟩, h0⟩
  by_cases h11 : K i = 11
  · rw [evs_11 h11, evs_11 h11]
    refine ⟨⟨rfl, fun l a b x x0 x1 => ?_⟩, by show 0 ≤ min (d + 1) 4 ∧ min (d + 1) 4 ≤ 4; omega⟩
    have b2 : l ≤ min (d + 1) 4 := b
    exact ⟨zR_c ⟨x0, x1⟩ (fun q => (h l a (by omega) x x0 x1).1), uR_c ⟨x0, x1⟩ (fun q => (h l a (by omega) x x0 x1).2)⟩
  · have hd1 := hd (by omega)
    rw [evs_12 (by omega), evs_12 (by omega)]
    refine ⟨⟨rfl, fun l a b x x0 x1 => ?_⟩, by show 0 ≤ max (d - 1) 0 ∧ max (d - 1) 0 ≤ 4; omega⟩
    have b2 : l ≤ max (d - 1) 0 := b
    exact ⟨hA l a (by omega) x x0 x1, mR_c hO ⟨x0, x1⟩ (h l a (by omega) x x0 x1).2 (fun e u u0 u1 => (h (max (d - 1) 0) (by omega) (by omega) u u0 u1).2) (fun e u u0 u1 => hA (max (d - 1) 0 + 1) (by omega) (by omega) u u0 u1)⟩
theorem dpN_ev {n D p : Int} {K V : Int → Int} {fr : Int} {S T : Int → Int} : ∀ k : Nat, (∀ j : Nat, j < k → K (fr + j) = 5 ∨ K (fr + j) = 6 ∨ K (fr + j) = 9 ∨ K (fr + j) = 10 ∨ K (fr + j) = 11 ∨ K (fr + j) = 12) → (evN n D p K V fr S T k).1 = dpN K fr k
  | 0, _ => rfl
  | k + 1, h => by
    have ih := dpN_ev (n := n) (D := D) (p := p) (V := V) (S := S) (T := T) k (fun j a => h j (by omega))
    have hk := h k (by omega)
    show (evs n D p K V fr (fr + k) (evN n D p K V fr S T k)).1 = (if K (fr + k) = 11 then min (dpN K fr k + 1) 4 else if K (fr + k) = 12 then max (dpN K fr k - 1) 0 else dpN K fr k)
    rw [← ih]
    generalize evN n D p K V fr S T k = s
    obtain ⟨d, A, B⟩ := s
    by_cases h1 : K (fr + k) = 5
    · rw [evs_5 h1]; show d = _; rw [if_neg (by omega), if_neg (by omega)]
    by_cases h6 : K (fr + k) = 6
    · rw [evs_6 h6]; show d = _; rw [if_neg (by omega), if_neg (by omega)]
    by_cases h2 : K (fr + k) = 9 ∨ K (fr + k) = 10
    · by_cases g : fr < fr + k ∧ ¬ K (fr + k - 1) = 11
      · rw [evs_9 h2 g rfl]; show d = _; rw [if_neg (by omega), if_neg (by omega)]
      · rw [evs_9' h2 g rfl]; show d = _; rw [if_neg (by omega), if_neg (by omega)]
    by_cases h3 : K (fr + k) = 11
    · rw [evs_11 h3, if_pos h3]
    · rw [evs_12 (by omega), if_neg h3, if_pos (by omega)]
/-- the kinds that a sum may have -/
def sKd (K : Int → Int) (m fr : Int) : Prop := ∀ j, fr ≤ j → j < enD K m fr → K j = 5 ∨ K j = 6 ∨ K j = 9 ∨ K j = 10 ∨ K j = 11 ∨ K j = 12
theorem evN_E {n D p : Int} {K V : Int → Int} {fr : Int} {S T S' T' : Int → Int} (hO : sOk n D p) : ∀ k : Nat, (∀ j : Nat, j < k → K (fr + j) = 5 ∨ K (fr + j) = 6 ∨ K (fr + j) = 9 ∨ K (fr + j) = 10 ∨ K (fr + j) = 11 ∨ K (fr + j) = 12) → (∀ j : Nat, j < k → K (fr + j) = 12 → 1 ≤ dpN K fr j) → evE (evN n D p K V fr S T k) (evN n D p K V fr S' T' k) ∧ 0 ≤ (evN n D p K V fr S T k).1 ∧ (evN n D p K V fr S T k).1 ≤ 4
  | 0, _, _ => ⟨⟨rfl, fun l a b x x0 x1 => by
      have e : l = 0 := by have : l ≤ (0 : Int) := b; omega
      subst e
      have e2 : (0 : Int) * 364 + x = 0 + x := by omega
      refine ⟨?_, ?_⟩
      · show seg S 0 364 (fun _ => 0) (0 * 364 + x) = seg S' 0 364 (fun _ => 0) (0 * 364 + x)
        rw [e2, seg_in ⟨x0, x1⟩, seg_in ⟨x0, x1⟩]
      · exact uR_c (d := 0) (l := 0) ⟨x0, x1⟩ (fun q => absurd rfl q)⟩, by show (0 : Int) ≤ 0 ∧ (0 : Int) ≤ 4; decide⟩
  | k + 1, h, g => by
    have ih := evN_E (V := V) (S := S) (T := T) (S' := S') (T' := T') hO k (fun j a => h j (by omega)) (fun j a b => g j (by omega) b)
    exact evs_E hO ih.2 ih.1 (fun q => by rw [dpN_ev k (fun j a => h j (by omega))]; exact g k (by omega) (by have := h k (by omega); omega))
theorem evR_V {n D p : Int} {K V : Int → Int} {m fr : Int} {S T : Int → Int} (hO : sOk n D p) (hm : fr ≤ m) (hk : sKd K m fr) (h : dOk K m fr) {x : Int} (hx : 0 ≤ x ∧ x < 364) : evR n D p K V m fr S T x = evV n D p K V m fr x := by
  have k := evN_E (n := n) (D := D) (p := p) (V := V) (S := S) (T := T) (S' := fun _ => 0) (T' := fun _ => 0) hO (enD K m fr - fr).toNat (fun j a => hk (fr + j) (by omega) (by omega)) (fun j a b => by
    have := h (fr + j) (by omega) (by omega) b
    rw [show (fr + (j : Int) - fr).toNat = j by omega] at this
    exact this)
  have k0 := k.1.2 0 (Int.le_refl 0) k.2.1
  unfold evR evV
  have e : x = 0 * 364 + x := by omega
  rw [e]
  exact aR_c (d := 0) hx (k0 x hx.1 hx.2).1 (fun _ => (k0 x hx.1 hx.2).2)
