/-! chains of the class: cells, step by step -/
section CLC
variable {L : Int → Int} {n D p : Int}
/-- one length of last steps put behind -/
theorem cl_len (hO : sOk n D p) {s : Nat} {m l f i B c : Int} {G G' : Int → Int} (hm : m ≤ 7) (hl : 1 ≤ l) (hf : 1 ≤ f ∧ f ≤ D) (hi : 0 ≤ i) (hc : c = chS L n D s l i)
    (h1 : ∀ v, 0 ≤ v → v < sW n D f → G' (B + ((l + f) * 364 + (sS n D f + v))) = G (B + ((l + f) * 364 + (sS n D f + v))) + (if okC L n D i (sS n D f + v) then c else 0))
    (h2 : ∀ x, (x < B + ((l + f) * 364 + sS n D f) ∨ B + ((l + f) * 364 + (sS n D f + sW n D f)) ≤ x) → G' x = G x)
    (hG : ∀ t j, 0 ≤ t → t ≤ m → 0 ≤ j → j < sS n D (D + 1) → G (B + (t * 364 + j)) = chP L n D s t j l (if sL n D j < f then i + 1 else i)) :
    ∀ t j, 0 ≤ t → t ≤ m → 0 ≤ j → j < sS n D (D + 1) → G' (B + (t * 364 + j)) = chP L n D s t j l (if sL n D j < f + 1 then i + 1 else i) := fun t j t0 t1 j0 j1 => by
  have hS := sS_b (k := D + 1) hO
  have hSf := sS_b (k := f) hO
  have hSf1 := sS_b (k := f + 1) hO
  have hSs : sS n D (f + 1) = sS n D f + sW n D f := sS_succ (by omega)
  have a1 := sL_lt hO j0 j1 (show 0 ≤ f by omega)
  have a2 := sL_lt hO j0 j1 (show 0 ≤ f - 1 by omega)
  rw [Int.sub_add_cancel] at a2
  have g := hG t j t0 t1 j0 j1
  by_cases e : sL n D j = f
  · rw [if_neg (by omega)] at g
    rw [if_pos (by omega), chP_i hi]
    have hv : 0 ≤ j - sS n D f ∧ j - sS n D f < sW n D f := by omega
    by_cases q : t = l + f
    · have k := h1 (j - sS n D f) hv.1 hv.2
      rw [show sS n D f + (j - sS n D f) = j by omega] at k
      rw [← q] at k
      rw [k, g, hc]
      by_cases o : okC L n D i j
      · rw [if_pos o, if_pos ⟨by omega, o⟩]
      · rw [if_neg o, if_neg (fun z => o z.2)]
    · rw [h2 _ (by omega), g, if_neg (fun z => by have := z.1; omega), Int.add_zero]
  · rw [h2 _ (by omega), g]
    by_cases o : sL n D j < f
    · rw [if_pos o, if_pos (by omega)]
    · rw [if_neg o, if_neg (by omega)]
theorem cl_end {s : Nat} {m l f i B : Int} {G : Int → Int} (hi : 0 ≤ i) (hz : chS L n D s l i = 0 ∨ m < l + f)
    (hG : ∀ t j, 0 ≤ t → t ≤ m → 0 ≤ j → j < sS n D (D + 1) → G (B + (t * 364 + j)) = chP L n D s t j l (if sL n D j < f then i + 1 else i)) :
    ∀ t j, 0 ≤ t → t ≤ m → 0 ≤ j → j < sS n D (D + 1) → G (B + (t * 364 + j)) = chP L n D s t j l (i + 1) := fun t j t0 t1 j0 j1 => by
  rw [hG t j t0 t1 j0 j1]
  by_cases o : sL n D j < f
  · rw [if_pos o]
  · rw [if_neg o, chP_i hi]
    by_cases e : t - sL n D j = l ∧ okC L n D i j
    · rcases hz with h | h
      · rw [h, if_pos e, Int.add_zero]
      · omega
    · rw [if_neg e, Int.add_zero]
theorem cl_beg {s : Nat} {m l i B : Int} {G : Int → Int} (hG : ∀ t j, 0 ≤ t → t ≤ m → 0 ≤ j → j < sS n D (D + 1) → G (B + (t * 364 + j)) = chP L n D s t j l i) :
    ∀ t j, 0 ≤ t → t ≤ m → 0 ≤ j → j < sS n D (D + 1) → G (B + (t * 364 + j)) = chP L n D s t j l (if sL n D j < 1 then i + 1 else i) := fun t j t0 t1 j0 j1 => by
  rw [hG t j t0 t1 j0 j1]
  by_cases o : sL n D j < 1
  · rw [if_pos o]; exact chP_j0 (by have := (sL_b n D j).1; omega)
  · rw [if_neg o]
theorem sS_1 (hO : sOk n D p) : sS n D 1 = 1 ∧ 1 ≤ sS n D (D + 1) := by
  have hD := hO.2.1.1
  have e : sS n D 1 = 1 := by
    have h := sS_succ (n := n) (D := D) (k := 0) (Int.le_refl 0)
    rw [sS_0, sW_0 (by omega)] at h
    exact h
  have := sS_mono (D := D) hO.1.1 (show 1 ≤ D + 1 by omega)
  omega
theorem sL_p (hO : sOk n D p) {i : Int} (h0 : 1 ≤ i) (h1 : i < sS n D (D + 1)) : 1 ≤ sL n D i := by
  have h := sL_lt hO (by omega) h1 (Int.le_refl 0)
  rw [Int.zero_add, (sS_1 hO).1] at h
  omega
theorem ch_s (hO : sOk n D p) {s : Nat} {l i : Int} (h : 0 < chS L n D s l i) : sL n D i ≤ l := by
  rcases Int.lt_or_le l (sL n D i) with g | g
  · rw [ch_z s l i g] at h; omega
  · exact g
/-- the first chains -/
theorem ch_0i (hO : sOk n D p) {t i : Int} (h0 : 0 ≤ i) (h1 : i < sS n D (D + 1)) : chS L n D 0 t i = if t = 1 ∧ 1 ≤ i ∧ i < 1 + n ∧ L i = 0 then 1 else 0 := by
  show (if t = 1 ∧ sL n D i = 1 ∧ L i = 0 then (1 : Int) else 0) = _
  have hD := hO.2.1.1
  have a := sL_lt hO h0 h1 (Int.le_refl 0)
  have b := sL_lt hO h0 h1 (show (0 : Int) ≤ 1 by decide)
  have e : sS n D (1 + 1) = 1 + n := by rw [sS_succ (by decide), (sS_1 hO).1, sW_in (by decide) hD]; exact congrArg (1 + ·) (Int.pow_one n)
  rw [e] at b
  rw [Int.zero_add, (sS_1 hO).1] at a
  have c := (sL_b n D i).1
  by_cases g : t = 1 ∧ sL n D i = 1 ∧ L i = 0
  · rw [if_pos g, if_pos ⟨g.1, by omega, by omega, g.2.2⟩]
  · rw [if_neg g, if_neg (fun q => g ⟨q.1, by omega, q.2.2.2⟩)]
theorem ch_3 (hO : sOk n D p) {s : Nat} (hs : s ≤ 3) (t i : Int) : 0 ≤ chS L n D s t i ∧ chS L n D s t i ≤ 48228544 := by
  have h := ch_b (L := L) hO s t i
  refine ⟨h.1, Int.le_trans h.2 ?_⟩
  have : s = 0 ∨ s = 1 ∨ s = 2 ∨ s = 3 := by omega
  rcases this with rfl | rfl | rfl | rfl <;> decide
end CLC
