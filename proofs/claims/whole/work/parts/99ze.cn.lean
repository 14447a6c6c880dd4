/-! chains of the model: cells, step by step; one word of the base at the end -/
section CNC
variable {L : Int → Int} {n D p : Int}
/-- one length of last steps put behind -/
theorem cn_len (hO : sOk n D p) {s : Nat} {m l f i c : Int} {G G' : Int → Int} (hm : m ≤ 7) (hl : 1 ≤ l) (hf : 1 ≤ f ∧ f ≤ D) (hi : 0 ≤ i) (hc : c = chS L n D s l i)
    (h1 : ∀ v, 0 ≤ v → v < sW n D f → G' (400 * (l + f) + (sS n D f + v)) = G (400 * (l + f) + (sS n D f + v)) + (if okC L n D i (sS n D f + v) then c else 0))
    (h2 : ∀ x, (x < 400 * (l + f) + sS n D f ∨ 400 * (l + f) + (sS n D f + sW n D f) ≤ x) → G' x = G x)
    (hG : ∀ t j, 0 ≤ t → t ≤ m → 0 ≤ j → j < sS n D (D + 1) → G (400 * t + j) = chP L n D s t j l (if sL n D j < f then i + 1 else i)) :
    ∀ t j, 0 ≤ t → t ≤ m → 0 ≤ j → j < sS n D (D + 1) → G' (400 * t + j) = chP L n D s t j l (if sL n D j < f + 1 then i + 1 else i) := fun t j t0 t1 j0 j1 => by
  have hS := sS_b (k := D + 1) hO
  have hSf := sS_b (k := f) hO
  have hSf1 := sS_b (k := f + 1) hO
  have hSs : sS n D (f + 1) = sS n D f + sW n D f := sS_succ (by omega)
  have a1 := sL_lt hO j0 j1 (show 0 ≤ f by omega)
  have a2 := sL_lt hO j0 j1 (show 0 ≤ f - 1 by omega)
  rw [Int.sub_add_cancel] at a2
  have g := hG t j t0 t1 j0 j1
  by_cases e : sL n D j = f
  · rw [if_neg (by omega)] at g
    rw [if_pos (by omega), chP_i hi]
    have hv : 0 ≤ j - sS n D f ∧ j - sS n D f < sW n D f := by omega
    by_cases q : t = l + f
    · have k := h1 (j - sS n D f) hv.1 hv.2
      rw [show sS n D f + (j - sS n D f) = j by omega] at k
      rw [← q] at k
      rw [k, g, hc]
      by_cases o : okC L n D i j
      · rw [if_pos o, if_pos ⟨by omega, o⟩]
      · rw [if_neg o, if_neg (fun z => o z.2)]
    · rw [h2 _ (by omega), g, if_neg (fun z => by have := z.1; omega), Int.add_zero]
  · rw [h2 _ (by omega), g]
    by_cases o : sL n D j < f
    · rw [if_pos o, if_pos (by omega)]
    · rw [if_neg o, if_neg (by omega)]
theorem cn_end {s : Nat} {m l f i : Int} {G : Int → Int} (hi : 0 ≤ i) (hz : chS L n D s l i = 0 ∨ m < l + f)
    (hG : ∀ t j, 0 ≤ t → t ≤ m → 0 ≤ j → j < sS n D (D + 1) → G (400 * t + j) = chP L n D s t j l (if sL n D j < f then i + 1 else i)) :
    ∀ t j, 0 ≤ t → t ≤ m → 0 ≤ j → j < sS n D (D + 1) → G (400 * t + j) = chP L n D s t j l (i + 1) := fun t j t0 t1 j0 j1 => by
  rw [hG t j t0 t1 j0 j1]
  by_cases o : sL n D j < f
  · rw [if_pos o]
  · rw [if_neg o, chP_i hi]
    by_cases e : t - sL n D j = l ∧ okC L n D i j
    · rcases hz with h | h
      · rw [h, if_pos e, Int.add_zero]
      · omega
    · rw [if_neg e, Int.add_zero]
theorem cn_beg {s : Nat} {m l i : Int} {G : Int → Int} (hG : ∀ t j, 0 ≤ t → t ≤ m → 0 ≤ j → j < sS n D (D + 1) → G (400 * t + j) = chP L n D s t j l i) :
    ∀ t j, 0 ≤ t → t ≤ m → 0 ≤ j → j < sS n D (D + 1) → G (400 * t + j) = chP L n D s t j l (if sL n D j < 1 then i + 1 else i) := fun t j t0 t1 j0 j1 => by
  rw [hG t j t0 t1 j0 j1]
  by_cases o : sL n D j < 1
  · rw [if_pos o]; exact chP_j0 (by have := (sL_b n D j).1; omega)
  · rw [if_neg o]
def eoI (L : Int → Int) (n D d w g b a : Int) : Prop := (g = 0 ∧ ∀ x y, 0 ≤ x → x < y → y ≤ d → (y < b ∨ (y = b ∧ x < a)) → ¬ isB L n D (y - x) (sbW n D d w x y)) ∨ (g = 1 ∧ ∃ f, (0 ≤ f ∧ f < d) ∧ (d < b ∨ (d = b ∧ f < a)) ∧ isB L n D (d - f) (sbW n D d w f d) ∧ ∀ x y, 0 ≤ x → x < y → y ≤ d → (y < b ∨ (y = b ∧ x < a)) → isB L n D (y - x) (sbW n D d w x y) → x = f ∧ y = d)
theorem eo_0 {d w : Int} : eoI L n D d w 0 1 0 := .inl ⟨rfl, fun x y h1 h2 h3 h4 => by omega⟩
theorem eo_no {d w g b a : Int} (h : eoI L n D d w g b a) (hx : ¬ isB L n D (b - a) (sbW n D d w a b)) : eoI L n D d w g b (a + 1) := by
  rcases h with ⟨h1, h2⟩ | ⟨h1, f, h2, h3, h4, h5⟩
  · refine .inl ⟨h1, fun x y g1 g2 g3 g4 => ?_⟩
    by_cases e : x = a ∧ y = b
    · rw [e.1, e.2]; exact hx
    · exact h2 x y g1 g2 g3 (by omega)
  · refine .inr ⟨h1, f, h2, by omega, h4, fun x y g1 g2 g3 g4 g5 => ?_⟩
    by_cases e : x = a ∧ y = b
    · rw [e.1, e.2] at g5; exact absurd g5 hx
    · exact h5 x y g1 g2 g3 (by omega) g5
theorem eo_yes {d w g b a : Int} (h : eoI L n D d w g b a) (ha : 0 ≤ a ∧ a < b) (hb : b = d) (hg : g = 0) (hx : isB L n D (b - a) (sbW n D d w a b)) : eoI L n D d w 1 b (a + 1) := by
  rcases h with ⟨h1, h2⟩ | ⟨h1, f, h2, h3, h4, h5⟩
  · subst hb
    refine .inr ⟨rfl, a, ha, by omega, hx, fun x y g1 g2 g3 g4 g5 => ?_⟩
    by_cases e : x = a ∧ y = b
    · exact e
    · exact absurd g5 (h2 x y g1 g2 g3 (by omega))
  · omega
theorem eo_row {d w g b a : Int} (h : eoI L n D d w g b a) (ha : b ≤ a) : eoI L n D d w g (b + 1) 0 := by
  rcases h with ⟨h1, h2⟩ | ⟨h1, f, h2, h3, h4, h5⟩
  · exact .inl ⟨h1, fun x y g1 g2 g3 g4 => h2 x y g1 g2 g3 (by omega)⟩
  · exact .inr ⟨h1, f, h2, by omega, h4, fun x y g1 g2 g3 g4 g5 => h5 x y g1 g2 g3 (by omega) g5⟩
theorem eo_fin {d w g b : Int} (hO : sOk n D p) (hL : lMo L n D) (hd : 1 ≤ d ∧ d ≤ D) (hw : 0 ≤ w ∧ w < sW n D d) (h : eoI L n D d w g b 0) (hb : d < b) : (g = 1 ∧ okE L n D d w) ∨ (g = 0 ∧ ¬ okE L n D d w) := by
  rcases h with ⟨h1, h2⟩ | ⟨h1, f, h2, h3, h4, h5⟩
  · refine .inr ⟨h1, fun q => ?_⟩
    obtain ⟨f, k1, k2, -⟩ := (eo_iff hO hL hd hw).mp q
    exact h2 f d k1.1 k1.2 (Int.le_refl d) (by omega) k2
  · exact .inl ⟨h1, (eo_iff hO hL hd hw).mpr ⟨f, h2, h4, fun x y a1 a2 a3 a4 => h5 x y a1 a2 a3 (by omega) a4⟩⟩
theorem eo_bad {d w g b a : Int} (hO : sOk n D p) (hL : lMo L n D) (hd : 1 ≤ d ∧ d ≤ D) (hw : 0 ≤ w ∧ w < sW n D d) (h : eoI L n D d w g b a) (ha : 0 ≤ a ∧ a < b) (hb : b ≤ d) (hx : isB L n D (b - a) (sbW n D d w a b)) (hg : b < d ∨ ¬ g = 0) : ¬ okE L n D d w := fun q => by
  obtain ⟨f, k1, k2, k3⟩ := (eo_iff hO hL hd hw).mp q
  have k4 := k3 a b ha.1 ha.2 hb hx
  rcases h with ⟨h1, h2⟩ | ⟨h1, f', h2, h3, h4, h5⟩
  · omega
  · have k5 := k3 f' d h2.1 h2.2 (Int.le_refl d) h4
    omega
end CNC
