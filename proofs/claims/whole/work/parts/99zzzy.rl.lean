/-! the pile against the levels of brackets -/
def rwL (X : Int → Int) (l x : Int) : Int := X (l * 364 + x)
def relS (A p : Int) (H F M SU TE : Int → Int) : Nat → List (Int → Int) → Prop
  | 0, st => lvR A p (H 0) (F 0) (M 0) (rwL SU 0) (rwL TE 0) st []
  | l + 1, st => ∃ rest, lvR A p (H ((l + 1 : Nat) : Int)) (F ((l + 1 : Nat) : Int)) (M ((l + 1 : Nat) : Int)) (rwL SU ((l + 1 : Nat) : Int)) (rwL TE ((l + 1 : Nat) : Int)) st rest ∧ relS A p H F M SU TE l rest
def relB (A p : Int) (H F M SU TE : Int → Int) : Nat → List (Int → Int) → Prop
  | 0, rest => rest = []
  | l + 1, rest => relS A p H F M SU TE l rest
theorem lvR_c {A p h f m h' f' m' : Int} {S T S' T' : Int → Int} {st rest : List (Int → Int)} (g : lvR A p h f m S T st rest) (e1 : h = h') (e2 : f = f') (e3 : m = m') (e4 : ∀ x, 0 ≤ x → x < A → S x = S' x ∧ T x = T' x) : lvR A p h' f' m' S' T' st rest := by
  subst e1 e2 e3
  obtain ⟨st1, h1, h2⟩ := g
  refine ⟨st1, ?_, ?_⟩
  · rcases h1 with ⟨a, b, c⟩ | ⟨a, r, b, c⟩
    · exact .inl ⟨a, b, fun x x0 x1 => by rw [← (e4 x x0 x1).2]; exact c x x0 x1⟩
    · exact .inr ⟨a, r, b, fun x x0 x1 => by rw [← (e4 x x0 x1).2]; exact c x x0 x1⟩
  · rcases h2 with ⟨a, b, c⟩ | ⟨a, r, b, c⟩
    · exact .inl ⟨a, b, fun x x0 x1 => by rw [← (e4 x x0 x1).1]; exact c x x0 x1⟩
    · exact .inr ⟨a, r, b, fun x x0 x1 => by rw [← (e4 x x0 x1).1]; exact c x x0 x1⟩
theorem relS_c {A p : Int} {H F M SU TE H' F' M' SU' TE' : Int → Int} : ∀ (o : Nat) (st : List (Int → Int)), relS A p H F M SU TE o st → (∀ l : Int, 0 ≤ l → l ≤ o → H l = H' l ∧ F l = F' l ∧ M l = M' l ∧ ∀ x, 0 ≤ x → x < A → rwL SU l x = rwL SU' l x ∧ rwL TE l x = rwL TE' l x) → relS A p H' F' M' SU' TE' o st
  | 0, st, h, e => by
    have k := e 0 (Int.le_refl 0) (Int.le_refl _)
    exact lvR_c h k.1 k.2.1 k.2.2.1 k.2.2.2
  | o + 1, st, h, e => by
    obtain ⟨rest, h1, h2⟩ := h
    have k := e ((o + 1 : Nat) : Int) (by omega) (Int.le_refl _)
    exact ⟨rest, lvR_c h1 k.1 k.2.1 k.2.2.1 k.2.2.2, relS_c o rest h2 (fun l a b => e l a (by omega))⟩
theorem relB_c {A p : Int} {H F M SU TE H' F' M' SU' TE' : Int → Int} (o : Nat) (rest : List (Int → Int)) (h : relB A p H F M SU TE o rest) (e : ∀ l : Int, 0 ≤ l → l < o → H l = H' l ∧ F l = F' l ∧ M l = M' l ∧ ∀ x, 0 ≤ x → x < A → rwL SU l x = rwL SU' l x ∧ rwL TE l x = rwL TE' l x) : relB A p H' F' M' SU' TE' o rest := by
  cases o with
  | zero => exact h
  | succ o => exact relS_c o rest h (fun l a b => e l a (by omega))
theorem relS_t {A p : Int} {H F M SU TE : Int → Int} {o : Int} (ho : 0 ≤ o) {st : List (Int → Int)} : relS A p H F M SU TE o.toNat st ↔ ∃ rest, lvR A p (H o) (F o) (M o) (rwL SU o) (rwL TE o) st rest ∧ relB A p H F M SU TE o.toNat rest := by
  obtain ⟨k, rfl⟩ : ∃ k : Nat, o = k := ⟨o.toNat, by omega⟩
  rw [show ((k : Int)).toNat = k by omega]
  cases k with
  | zero =>
    constructor
    · intro h; exact ⟨[], h, rfl⟩
    · rintro ⟨rest, h, e⟩
      have e2 : rest = [] := e
      subst e2
      exact h
  | succ k => exact Iff.rfl
/-- the effects of ending a term and of a factor more -/
def etQ (o : Int) (H M F L BE : Int → Int) (C : Int) (CO CI H' F' L' BE' : Int → Int) (C' : Int) (CO' CI' : Int → Int) : Prop := H' = up H o 1 ∧ F' = up F o 0 ∧ L' = up L o 0 ∧ (∀ l, BE' l = if l = o then max (BE o) (L o) else BE l) ∧ ((H o = 0 ∧ M o = 0 ∧ C' = C ∧ CO' = CO ∧ CI' = CI) ∨ (¬ (H o = 0 ∧ M o = 0) ∧ C' = C + 1 ∧ CO' = up CO C (if H o = 0 then 5 else if M o = 0 then 2 else 3) ∧ CI' = up CI C 0))
def faQ (o more : Int) (F L : Int → Int) (C : Int) (CO CI F' L' : Int → Int) (C' : Int) (CO' CI' : Int → Int) : Prop := F' = up F o (F o + 1) ∧ L' = up L o (L o + more) ∧ ((F o ≤ 0 ∧ C' = C ∧ CO' = CO ∧ CI' = CI) ∨ (0 < F o ∧ C' = C + 1 ∧ CO' = up CO C 4 ∧ CI' = up CI C 0))
/-- what holds while a sum is told that began at fr: levels, LONG, counts -/
def sQp (K : Int → Int) (fr t o : Int) (H F L BE : Int → Int) : Prop := (0 ≤ fr ∧ fr ≤ t) ∧ (0 ≤ o ∧ o ≤ 4) ∧ (∃ A B, lgN K fr (fun _ => 0) (fun _ => 0) (t - fr).toNat = (o, A, B) ∧ lbQ o A B (t - fr) ∧ ∀ l, 0 ≤ l → l ≤ o → BE l = A l ∧ L l = B l) ∧ (∀ j, fr ≤ j → j < t → K j = 5 ∨ K j = 6 ∨ K j = 9 ∨ K j = 10 ∨ K j = 11 ∨ K j = 12) ∧ (∀ l, 0 ≤ l → l ≤ o → (0 ≤ F l ∧ F l ≤ t - fr) ∧ (H l = 0 ∨ H l = 1)) ∧ (0 < F o → fr < t ∧ ¬ K (t - 1) = 11)
/-- the code so far against the values -/
def sV (K V : Int → Int) (fr t o : Int) (H M F : Int → Int) (C0 C : Int) (CO CI : Int → Int) : Prop := C0 ≤ C ∧ ∀ n D p, sOk n D p → (∀ j, fr ≤ j → j < t → K j = 5 → 0 ≤ V j ∧ V j < n) → relS (sS n D (D + 1)) p H F M (evN n D p K V fr (fun _ => 0) (fun _ => 0) (t - fr).toNat).2.1 (evN n D p K V fr (fun _ => 0) (fun _ => 0) (t - fr).toNat).2.2 o.toNat (wkN n D p CO CI C0 (C - C0).toNat)
section SQ
variable {K V : Int → Int} {fr t o : Int} {H M F L BE H' M' F' L' BE' : Int → Int} {C0 C C' : Int} {CO CI CO' CI' : Int → Int}
theorem sQp_d (h : sQp K fr t o H F L BE) (n D p : Int) (V : Int → Int) : ∃ S T, evN n D p K V fr (fun _ => 0) (fun _ => 0) (t - fr).toNat = (o, S, T) := by
  obtain ⟨h1, h2, ⟨A, B, h3, _⟩, h6, h7⟩ := h
  have e : (evN n D p K V fr (fun _ => 0) (fun _ => 0) (t - fr).toNat).1 = o := by
    rw [dpN_ev (t - fr).toNat (fun j a => h6 (fr + j) (by omega) (by omega)), ← dpN_lg (S := fun _ => 0) (T := fun _ => 0), h3]
  exact ⟨_, _, Prod.ext e rfl⟩
theorem sQp_0 (hf : 0 ≤ fr) : sQp K fr fr 0 (up H 0 0) (up F 0 0) (up L 0 0) (up BE 0 0) := by
  have e : (fr - fr).toNat = 0 := by omega
  refine ⟨⟨hf, Int.le_refl _⟩, ⟨Int.le_refl 0, by decide⟩, ⟨_, _, by rw [e]; rfl, lb_w lb_0 (by omega), fun l a b => ?_⟩, fun j a b => by omega, fun l a b => ?_, fun q => ?_⟩
  · rw [show l = 0 by omega]; exact ⟨(up_eq _ _ _).trans (up_eq _ _ _).symm, (up_eq _ _ _).trans (up_eq _ _ _).symm⟩
  · rw [show l = 0 by omega, up_eq, up_eq]; exact ⟨by omega, .inl rfl⟩
  · rw [up_eq] at q; omega
theorem knd_s {K : Int → Int} {fr t : Int} (h6 : ∀ j, fr ≤ j → j < t → K j = 5 ∨ K j = 6 ∨ K j = 9 ∨ K j = 10 ∨ K j = 11 ∨ K j = 12) (hk : K t = 5 ∨ K t = 6 ∨ K t = 9 ∨ K t = 10 ∨ K t = 11 ∨ K t = 12) : ∀ j, fr ≤ j → j < t + 1 → K j = 5 ∨ K j = 6 ∨ K j = 9 ∨ K j = 10 ∨ K j = 11 ∨ K j = 12 := fun j a b => by
  by_cases q : j = t
  · rw [q]; exact hk
  · exact h6 j a (by omega)
theorem sQp_int (h : sQp K fr t o H F L BE) (hk : K t = 6) (hf : F o ≤ 0) (e1 : F' = up F o 1) : sQp K fr (t + 1) o H F' L BE := by
  obtain ⟨h1, h2, ⟨A, B, h3, h4, h5⟩, h6, h7, h8⟩ := h
  subst e1
  refine ⟨by omega, h2, ⟨A, B, (lgN_s h1.2 h3).trans (lgs_0 (by omega)), lb_w h4 (by omega), h5⟩, knd_s h6 (.inr (.inl hk)), fun l a b => ?_, fun _ => ⟨by omega, by rw [show t + 1 - 1 = t by omega]; omega⟩⟩
  have k := h7 l a b
  by_cases q : l = o
  · rw [q, up_eq]; exact ⟨by omega, (h7 o h2.1 (Int.le_refl _)).2⟩
  · rw [up_ne q]; exact ⟨by omega, k.2⟩
theorem sQp_nam (h : sQp K fr t o H F L BE) (hk : K t = 5) (e : faQ o 1 F L C CO CI F' L' C' CO' CI') : sQp K fr (t + 1) o H F' L' BE := by
  obtain ⟨h1, h2, ⟨A, B, h3, h4, h5⟩, h6, h7, h8⟩ := h
  obtain ⟨rfl, rfl, _⟩ := e
  refine ⟨by omega, h2, ⟨A, up B o (B o + 1), (lgN_s h1.2 h3).trans (lgs_5 hk), lb_w (lb_5 h2.1 h4) (by omega), fun l a b => ?_⟩, knd_s h6 (.inl hk), fun l a b => ?_, fun _ => ⟨by omega, by rw [show t + 1 - 1 = t by omega]; omega⟩⟩
  · have k := h5 l a b
    refine ⟨k.1, up_c (fun _ => k.2) (fun _ => by rw [(h5 o h2.1 (Int.le_refl _)).2])⟩
  · have k := h7 l a b
    by_cases q : l = o
    · rw [q, up_eq]; have := h7 o h2.1 (Int.le_refl _); exact ⟨by omega, this.2⟩
    · rw [up_ne q]; exact ⟨by omega, k.2⟩
theorem sQp_opn (h : sQp K fr t o H F L BE) (hk : K t = 11) (ho : o ≤ 3) : sQp K fr (t + 1) (o + 1) (up H (o + 1) 0) (up F (o + 1) 0) (up L (o + 1) 0) (up BE (o + 1) 0) := by
  obtain ⟨h1, h2, ⟨A, B, h3, h4, h5⟩, h6, h7, h8⟩ := h
  have e := (lgN_s h1.2 h3).trans (lgs_11 hk)
  have g := lb_11 h2 h4
  rw [show min (o + 1) 4 = o + 1 by omega] at e g
  refine ⟨by omega, by omega, ⟨_, _, e, lb_w g (by omega), fun l a b => ?_⟩, knd_s h6 (by omega), fun l a b => ?_, fun q => ?_⟩
  · exact ⟨up_c (fun q => (h5 l a (by omega)).1) (fun _ => rfl), up_c (fun q => (h5 l a (by omega)).2) (fun _ => rfl)⟩
  · by_cases q : l = o + 1
    · rw [q, up_eq, up_eq]; exact ⟨by omega, .inl rfl⟩
    · rw [up_ne q, up_ne q]; have := h7 l a (by omega); exact ⟨by omega, this.2⟩
  · rw [up_eq] at q; omega
theorem sQp_min (h : sQp K fr t o H F L BE) (hk : K t = 10) (hf : F o ≤ 0) (hl : L o = 0) (hb : BE o = 0) : sQp K fr (t + 1) o H F L BE := by
  obtain ⟨h1, h2, ⟨A, B, h3, h4, h5⟩, h6, h7, h8⟩ := h
  have e := (lgN_s h1.2 h3).trans (lgs_9 (.inr hk))
  have k := h5 o h2.1 (Int.le_refl _)
  refine ⟨by omega, h2, ⟨_, _, e, lb_w (lb_9 h2.1 h4) (by omega), fun l a b => ?_⟩, knd_s h6 (by omega), fun l a b => ?_, fun q => by omega⟩
  · have q := h5 l a b
    by_cases c : l = o
    · rw [c, up_eq, up_eq, ← k.1, ← k.2, hl, hb]; exact ⟨rfl, rfl⟩
    · rw [up_ne c, up_ne c]; exact q
  · have := h7 l a b; exact ⟨by omega, this.2⟩
theorem sQp_pm (h : sQp K fr t o H F L BE) (hk : K t = 9 ∨ K t = 10) (e : etQ o H M F L BE C CO CI H' F' L' BE' C' CO' CI') : sQp K fr (t + 1) o H' F' L' BE' := by
  obtain ⟨h1, h2, ⟨A, B, h3, h4, h5⟩, h6, h7, h8⟩ := h
  obtain ⟨rfl, rfl, rfl, e4, _⟩ := e
  have e := (lgN_s h1.2 h3).trans (lgs_9 hk)
  have k := h5 o h2.1 (Int.le_refl _)
  refine ⟨by omega, h2, ⟨_, _, e, lb_w (lb_9 h2.1 h4) (by omega), fun l a b => ?_⟩, knd_s h6 (by omega), fun l a b => ?_, fun q => ?_⟩
  · have q := h5 l a b
    rw [e4]
    by_cases c : l = o
    · rw [if_pos c, c, up_eq, up_eq, up_eq, k.1, k.2]; exact ⟨rfl, rfl⟩
    · rw [if_neg c, up_ne c, up_ne c, up_ne c]; exact q
  · have q := h7 l a b
    by_cases c : l = o
    · rw [c, up_eq, up_eq]; exact ⟨by omega, .inr rfl⟩
    · rw [up_ne c, up_ne c]; exact ⟨by omega, q.2⟩
  · rw [up_eq] at q; omega
theorem sQp_cls {F1 L1 F2 L2 : Int → Int} {C1 C2 : Int} {CO1 CI1 CO2 CI2 : Int → Int} (h : sQp K fr t o H F L BE) (hk : K t = 12) (ho : 1 ≤ o) (e : etQ o H M F L BE C CO CI H' F1 L1 BE' C1 CO1 CI1) (g : faQ (o - 1) (BE' o) F1 L1 C1 CO1 CI1 F2 L2 C2 CO2 CI2) : sQp K fr (t + 1) (o - 1) H' F2 L2 BE' := by
  obtain ⟨h1, h2, ⟨A, B, h3, h4, h5⟩, h6, h7, h8⟩ := h
  obtain ⟨rfl, rfl, rfl, e4, _⟩ := e
  obtain ⟨rfl, rfl, _⟩ := g
  have e := (lgN_s h1.2 h3).trans (lgs_12 hk)
  have w := lb_12 ho h4
  rw [show max (o - 1) 0 = o - 1 by omega] at e w
  have k := h5 o h2.1 (Int.le_refl _)
  have k1 := h5 (o - 1) (by omega) (by omega)
  refine ⟨by omega, by omega, ⟨_, _, e, lb_w w (by omega), fun l a b => ?_⟩, knd_s h6 (by omega), fun l a b => ?_, fun _ => ⟨by omega, by rw [show t + 1 - 1 = t by omega]; omega⟩⟩
  · have q := h5 l a (by omega)
    rw [e4, e4, if_neg (by omega), if_pos rfl]
    refine ⟨q.1, ?_⟩
    by_cases c : l = o - 1
    · rw [c, up_eq, up_eq, up_ne (by omega), k1.2, k.1, k.2]
    · rw [up_ne c, up_ne c, up_ne (by omega)]; exact q.2
  · have q := h7 l a (by omega)
    rw [up_ne (show ¬ l = o by omega)]
    refine ⟨?_, q.2⟩
    by_cases c : l = o - 1
    · rw [c, up_eq, up_ne (by omega)]
      have := h7 (o - 1) (by omega) (by omega)
      omega
    · rw [up_ne c, up_ne (by omega)]; omega
theorem sV_0 : sV K V fr fr 0 (up H 0 0) (up M 0 0) (up F 0 0) C C CO CI := by
  refine ⟨Int.le_refl _, fun n D p hO _ => ?_⟩
  rw [show (fr - fr).toNat = 0 by omega, show (C - C).toNat = 0 by omega]
  refine ⟨[], .inl ⟨by rw [up_eq]; decide, rfl, fun x x0 x1 => ?_⟩, .inl ⟨up_eq _ _ _, rfl, fun x x0 x1 => ?_⟩⟩
  · have hb := sS_b (k := D + 1) hO
    show uR p 0 1 (fun _ => 0) (0 * 364 + x) = _
    rw [uR, seg_in ⟨x0, by omega⟩, up_eq, sgM, if_pos rfl]
  · have hb := sS_b (k := D + 1) hO
    show seg (fun _ => (0 : Int)) 0 364 (fun _ => 0) (0 * 364 + x) = 0
    rw [show (0 : Int) * 364 + x = 0 + x by omega, seg_in ⟨x0, by omega⟩]
theorem sV_bs (h : C0 ≤ C) (n D p w v : Int) : wkN n D p (up CO C w) (up CI C v) C0 (C + 1 - C0).toNat = wkst n D p w v (wkN n D p CO CI C0 (C - C0).toNat) := wkN_s h
/-- letters told so far stay below n -/
theorem sV_n {n : Int} (h : ∀ j, fr ≤ j → j < t + 1 → K j = 5 → 0 ≤ V j ∧ V j < n) : ∀ j, fr ≤ j → j < t → K j = 5 → 0 ≤ V j ∧ V j < n := fun j a b => h j a (by omega)
theorem sV_int (hq : sQp K fr t o H F L BE) (h : sV K V fr t o H M F C0 C CO CI) (hk : K t = 6) (hf : F o ≤ 0) (e1 : F' = up F o 1) (e2 : CO' = up CO C 0) (e3 : CI' = up CI C (V t)) : sV K V fr (t + 1) o H M F' C0 (C + 1) CO' CI' := by
  subst e1 e2 e3
  refine ⟨by have := h.1; omega, fun n D p hO hn => ?_⟩
  have g := h.2 n D p hO (sV_n hn)
  obtain ⟨S, T, hE⟩ := sQp_d hq n D p V
  rw [hE] at g
  rw [(evN_s hq.1.2 hE).trans (evs_6 hk), sV_bs h.1]
  have ho := hq.2.1.1
  obtain ⟨rest, g1, g2⟩ := (relS_t ho).mp g
  refine (relS_t ho).mpr ⟨rest, ?_, relB_c o.toNat rest g2 (fun l a b => ⟨rfl, (up_ne (by omega)).symm, rfl, fun x x0 x1 => ⟨rfl, ?_⟩⟩)⟩
  · rw [up_eq]
    refine lv_int hO g1 hf (fun x x0 x1 => ?_)
    have hb := sS_b (k := D + 1) hO
    show nR p o (V t) T (o * 364 + x) = _
    rw [nR, seg_in ⟨x0, by omega⟩]
    rfl
  · show T (l * 364 + x) = nR p o (V t) T (l * 364 + x)
    have hb := sS_b (k := D + 1) hO
    rw [nR, seg_out (by omega)]
theorem fa_cd {n D p f w v : Int} {st : List (Int → Int)} (h : C0 ≤ C) (e : (f ≤ 0 ∧ C' = C + 1 ∧ CO' = up CO C w ∧ CI' = up CI C v) ∨ (0 < f ∧ C' = C + 1 + 1 ∧ CO' = up (up CO C w) (C + 1) 4 ∧ CI' = up (up CI C v) (C + 1) 0)) : wkN n D p CO' CI' C0 (C' - C0).toNat = if 0 < f then wkst n D p 4 0 (wkst n D p w v (wkN n D p CO CI C0 (C - C0).toNat)) else wkst n D p w v (wkN n D p CO CI C0 (C - C0).toNat) := by
  rcases e with ⟨a, rfl, rfl, rfl⟩ | ⟨a, rfl, rfl, rfl⟩
  · rw [if_neg (by omega), sV_bs h]
  · rw [if_pos a, sV_bs (by omega), sV_bs h]
theorem sV_nam (hq : sQp K fr t o H F L BE) (h : sV K V fr t o H M F C0 C CO CI) (hk : K t = 5) (e : faQ o 1 F L (C + 1) (up CO C 1) (up CI C (V t)) F' L' C' CO' CI') : sV K V fr (t + 1) o H M F' C0 C' CO' CI' := by
  obtain ⟨rfl, _, e3⟩ := e
  refine ⟨by have := h.1; omega, fun n D p hO hn => ?_⟩
  have g := h.2 n D p hO (sV_n hn)
  obtain ⟨S, T, hE⟩ := sQp_d hq n D p V
  rw [hE] at g
  rw [(evN_s hq.1.2 hE).trans (evs_5 hk), fa_cd (st := []) h.1 e3]
  have ho := hq.2.1.1
  have hb := sS_b (k := D + 1) hO
  have hp2 := hO.2.2.2.1
  obtain ⟨rest, g1, g2⟩ := (relS_t ho).mp g
  refine (relS_t ho).mpr ⟨rest, ?_, relB_c o.toNat rest g2 (fun l a b => ⟨rfl, (up_ne (by omega)).symm, rfl, fun x x0 x1 => ⟨rfl, ?_⟩⟩)⟩
  · rw [up_eq]
    have hFo := (hq.2.2.2.2.1 o ho (Int.le_refl _)).1
    refine lv_mul (e := eLt (V t)) (e' := fun x => eLt (V t) x % p) hO g1 hFo.1 (fun x x0 x1 => ?_) (fun x x0 x1 => ?_)
    · show eLt (V t) x % p = eLt (V t) x ∧ _
      unfold eLt
      split
      · exact ⟨Int.emod_eq_of_lt (by decide) (by omega), by decide, by omega⟩
      · exact ⟨Int.zero_emod p, by decide, by omega⟩
    · show lR n D p o (V t) T (o * 364 + x) = _
      rw [lR, seg_in ⟨x0, by omega⟩]
      rfl
  · show T (l * 364 + x) = lR n D p o (V t) T (l * 364 + x)
    rw [lR, seg_out (by omega)]
theorem sV_opn (hq : sQp K fr t o H F L BE) (h : sV K V fr t o H M F C0 C CO CI) (hk : K t = 11) (ho3 : o ≤ 3) : sV K V fr (t + 1) (o + 1) (up H (o + 1) 0) (up M (o + 1) 0) (up F (o + 1) 0) C0 C CO CI := by
  refine ⟨h.1, fun n D p hO hn => ?_⟩
  have g := h.2 n D p hO (sV_n hn)
  obtain ⟨S, T, hE⟩ := sQp_d hq n D p V
  rw [hE] at g
  rw [(evN_s hq.1.2 hE).trans (evs_11 hk), show min (o + 1) 4 = o + 1 by omega]
  have ho := hq.2.1.1
  have hb := sS_b (k := D + 1) hO
  refine (relS_t (by omega)).mpr ⟨_, ⟨_, .inl ⟨by rw [up_eq]; decide, rfl, fun x x0 x1 => ?_⟩, .inl ⟨up_eq _ _ _, rfl, fun x x0 x1 => ?_⟩⟩, ?_⟩
  · show uR p (o + 1) 1 T ((o + 1) * 364 + x) = _
    rw [uR, seg_in ⟨x0, by omega⟩, up_eq, sgM, if_pos rfl]
  · show seg S ((o + 1) * 364) 364 (fun _ => 0) ((o + 1) * 364 + x) = 0
    rw [seg_in ⟨x0, by omega⟩]
  · rw [show (o + 1).toNat = o.toNat + 1 by omega]
    refine relS_c o.toNat _ g (fun l a b => ⟨(up_ne (by omega)).symm, (up_ne (by omega)).symm, (up_ne (by omega)).symm, fun x x0 x1 => ⟨?_, ?_⟩⟩)
    · show S (l * 364 + x) = seg S ((o + 1) * 364) 364 (fun _ => 0) (l * 364 + x)
      rw [seg_out (by omega)]
    · show T (l * 364 + x) = uR p (o + 1) 1 T (l * 364 + x)
      rw [uR, seg_out (by omega)]
theorem sV_min (hq : sQp K fr t o H F L BE) (h : sV K V fr t o H M F C0 C CO CI) (hk : K t = 10) (hf : F o ≤ 0) (hfst : ¬ (fr < t ∧ ¬ K (t - 1) = 11)) (e : M' = up M o 1) : sV K V fr (t + 1) o H M' F C0 C CO CI := by
  subst e
  refine ⟨h.1, fun n D p hO hn => ?_⟩
  have g := h.2 n D p hO (sV_n hn)
  obtain ⟨S, T, hE⟩ := sQp_d hq n D p V
  rw [hE] at g
  rw [(evN_s hq.1.2 hE).trans (evs_9' (.inr hk) hfst rfl), if_neg (show ¬ K t = 9 by omega)]
  have ho := hq.2.1.1
  have hb := sS_b (k := D + 1) hO
  obtain ⟨rest, ⟨st1, g1, g3⟩, g2⟩ := (relS_t ho).mp g
  refine (relS_t ho).mpr ⟨rest, ⟨st1, ?_, g3⟩, relB_c o.toNat rest g2 (fun l a b => ⟨rfl, rfl, (up_ne (by omega)).symm, fun x x0 x1 => ⟨rfl, ?_⟩⟩)⟩
  · rcases g1 with ⟨a, c, _⟩ | ⟨a, _⟩
    · refine .inl ⟨a, c, fun x x0 x1 => ?_⟩
      show uR p o (-1) T (o * 364 + x) = _
      rw [uR, seg_in ⟨x0, by omega⟩, up_eq, sgM, if_neg (by decide)]
    · omega
  · show T (l * 364 + x) = uR p o (-1) T (l * 364 + x)
    rw [uR, seg_out (by omega)]
theorem et_cd {n D p h m : Int} (hC : C0 ≤ C) (e : (h = 0 ∧ m = 0 ∧ C' = C ∧ CO' = CO ∧ CI' = CI) ∨ (¬ (h = 0 ∧ m = 0) ∧ C' = C + 1 ∧ CO' = up CO C (if h = 0 then 5 else if m = 0 then 2 else 3) ∧ CI' = up CI C 0)) : C0 ≤ C' ∧ wkN n D p CO' CI' C0 (C' - C0).toNat = if h = 0 then (if m = 0 then wkN n D p CO CI C0 (C - C0).toNat else wkst n D p 5 0 (wkN n D p CO CI C0 (C - C0).toNat)) else wkst n D p (if m = 0 then 2 else 3) 0 (wkN n D p CO CI C0 (C - C0).toNat) := by
  rcases e with ⟨a, b, rfl, rfl, rfl⟩ | ⟨a, rfl, rfl, rfl⟩
  · rw [if_pos a, if_pos b]; exact ⟨hC, rfl⟩
  · refine ⟨by omega, ?_⟩
    rw [sV_bs hC]
    by_cases c : h = 0
    · rw [if_pos c, if_pos c, if_neg (fun q => a ⟨c, q⟩)]
    · rw [if_neg c, if_neg c]
theorem sV_et (hq : sQp K fr t o H F L BE) (h : sV K V fr t o H M F C0 C CO CI) (hf : 0 < F o) (e : etQ o H M F L BE C CO CI H' F' L' BE' C' CO' CI') {n D p : Int} (hO : sOk n D p) (hn : ∀ j, fr ≤ j → j < t → K j = 5 → 0 ≤ V j ∧ V j < n) : C0 ≤ C' ∧ ∃ S T q rest, evN n D p K V fr (fun _ => 0) (fun _ => 0) (t - fr).toNat = (o, S, T) ∧ wkN n D p CO' CI' C0 (C' - C0).toNat = q :: rest ∧ (∀ x, 0 ≤ x → x < sS n D (D + 1) → q x = aR p o S T (o * 364 + x) ∧ 0 ≤ aR p o S T (o * 364 + x) ∧ aR p o S T (o * 364 + x) < p) ∧ relB (sS n D (D + 1)) p H F M S T o.toNat rest := by
  have g := h.2 n D p hO hn
  obtain ⟨S, T, hE⟩ := sQp_d hq n D p V
  rw [hE] at g
  have ho := hq.2.1.1
  have hb := sS_b (k := D + 1) hO
  obtain ⟨rest, g1, g2⟩ := (relS_t ho).mp g
  have c := et_cd (n := n) (D := D) (p := p) h.1 e.2.2.2.2
  obtain ⟨q, k1, k2⟩ := lv_et (S' := rwL (aR p o S T) o) hO g1 hf (fun x x0 x1 => by
    show aR p o S T (o * 364 + x) = _
    rw [aR, seg_in ⟨x0, by omega⟩]
    rfl)
  exact ⟨c.1, S, T, q, rest, hE, c.2.trans k1, k2, g2⟩
theorem sV_pm (hq : sQp K fr t o H F L BE) (h : sV K V fr t o H M F C0 C CO CI) (hf : 0 < F o) (hk : K t = 9 ∨ K t = 10) (e : etQ o H M F L BE C CO CI H' F' L' BE' C' CO' CI') (e2 : M' = up M o (if K t = 10 then 1 else 0)) : sV K V fr (t + 1) o H' M' F' C0 C' CO' CI' := by
  have hC := (et_cd (n := 0) (D := 0) (p := 0) h.1 e.2.2.2.2).1
  refine ⟨hC, fun n D p hO hn => ?_⟩
  obtain ⟨_, S, T, q, rest, hE, hw, hq2, hB⟩ := sV_et hq h hf e hO (sV_n hn)
  obtain ⟨rfl, rfl, rfl, _, _⟩ := e
  subst e2
  have hlast := hq.2.2.2.2.2 hf
  rw [(evN_s hq.1.2 hE).trans (evs_9 hk hlast rfl), hw]
  have ho := hq.2.1.1
  have hb := sS_b (k := D + 1) hO
  refine (relS_t ho).mpr ⟨rest, ⟨_, .inl ⟨by rw [up_eq]; decide, rfl, fun x x0 x1 => ?_⟩, .inr ⟨by rw [up_eq]; decide, q, rfl, fun x x0 x1 => hq2 x x0 x1⟩⟩, relB_c o.toNat rest hB (fun l a b => ⟨(up_ne (by omega)).symm, (up_ne (by omega)).symm, (up_ne (by omega)).symm, fun x x0 x1 => ⟨?_, ?_⟩⟩)⟩
  · show uR p o (if K t = 9 then 1 else -1) T (o * 364 + x) = _
    rw [uR, seg_in ⟨x0, by omega⟩, up_eq, sgM]
    rcases hk with c | c
    · rw [if_pos c, if_neg (show ¬ K t = 10 by omega), if_pos rfl]
    · rw [if_neg (show ¬ K t = 9 by omega), if_pos c, if_neg (by decide)]
  · show S (l * 364 + x) = aR p o S T (l * 364 + x)
    rw [aR, seg_out (by omega)]
  · show T (l * 364 + x) = uR p o (if K t = 9 then 1 else -1) T (l * 364 + x)
    rw [uR, seg_out (by omega)]
theorem sV_cls {F1 L1 F2 L2 : Int → Int} {C1 C2 : Int} {CO1 CI1 CO2 CI2 : Int → Int} (hq : sQp K fr t o H F L BE) (h : sV K V fr t o H M F C0 C CO CI) (hf : 0 < F o) (hk : K t = 12) (ho1 : 1 ≤ o) (e : etQ o H M F L BE C CO CI H' F1 L1 BE' C1 CO1 CI1) (g : faQ (o - 1) (BE' o) F1 L1 C1 CO1 CI1 F2 L2 C2 CO2 CI2) : sV K V fr (t + 1) (o - 1) H' M F2 C0 C2 CO2 CI2 := by
  have hC := (et_cd (n := 0) (D := 0) (p := 0) h.1 e.2.2.2.2).1
  have hC2 : C0 ≤ C2 := by rcases g.2.2 with q | q <;> omega
  refine ⟨hC2, fun n D p hO hn => ?_⟩
  obtain ⟨_, S, T, q, rest, hE, hw, hq2, hB⟩ := sV_et hq h hf e hO (sV_n hn)
  obtain ⟨rfl, rfl, rfl, _, _⟩ := e
  obtain ⟨rfl, rfl, g3⟩ := g
  rw [(evN_s hq.1.2 hE).trans (evs_12 (by omega)), show max (o - 1) 0 = o - 1 by omega]
  have hb := sS_b (k := D + 1) hO
  have hFo := (hq.2.2.2.2.1 (o - 1) (by omega) (by omega)).1
  rw [show o.toNat = (o - 1).toNat + 1 by omega] at hB
  obtain ⟨rest2, b1, b2⟩ := (relS_t (show 0 ≤ o - 1 by omega)).mp hB
  have hup : up F o 0 (o - 1) = F (o - 1) := up_ne (by omega)
  rw [hup] at g3
  have hcd : wkN n D p CO2 CI2 C0 (C2 - C0).toNat = if 0 < F (o - 1) then wkst n D p 4 0 (q :: rest) else q :: rest := by
    rw [← hw]
    rcases g3 with ⟨a, rfl, rfl, rfl⟩ | ⟨a, rfl, rfl, rfl⟩
    · rw [if_neg (by omega)]
    · rw [if_pos a, sV_bs hC]
  rw [hcd]
  refine (relS_t (by omega)).mpr ⟨rest2, ?_, relB_c (o - 1).toNat rest2 b2 (fun l a b => ⟨(up_ne (by omega)).symm, ((up_ne (by omega)).trans (up_ne (by omega))).symm, rfl, fun x x0 x1 => ⟨?_, ?_⟩⟩)⟩
  · rw [up_eq, hup, up_ne (show ¬ o - 1 = o by omega)]
    have m := lv_mul (e := rwL (aR p o S T) o) (e' := q) (T' := rwL (mR n D p (o - 1) (aR p o S T) T) (o - 1)) hO b1 hFo.1 (fun x x0 x1 => hq2 x x0 x1) (fun x x0 x1 => by
      show mR n D p (o - 1) (aR p o S T) T ((o - 1) * 364 + x) = _
      rw [mR, seg_in ⟨x0, by omega⟩, show o - 1 + 1 = o by omega]
      rfl)
    refine lvR_c m rfl rfl rfl (fun x x0 x1 => ⟨?_, rfl⟩)
    show S ((o - 1) * 364 + x) = aR p o S T ((o - 1) * 364 + x)
    rw [aR, seg_out (by omega)]
  · show S (l * 364 + x) = aR p o S T (l * 364 + x)
    rw [aR, seg_out (by omega)]
  · show T (l * 364 + x) = mR n D p (o - 1) (aR p o S T) T (l * 364 + x)
    rw [mR, seg_out (by omega)]
/-- a sum told to its end -/
theorem sV_end (hq : sQp K fr t o H F L BE) (h : sV K V fr t o H M F C0 C CO CI) (hf : 0 < F o) (ho : o = 0) (e : etQ o H M F L BE C CO CI H' F' L' BE' C' CO' CI') {m n D p : Int} (hm : enD K m fr = t) (hO : sOk n D p) (hn : ∀ j, fr ≤ j → j < t → K j = 5 → 0 ≤ V j ∧ V j < n) : C0 ≤ C' ∧ ∃ q, wkN n D p CO' CI' C0 (C' - C0).toNat = [q] ∧ ∀ x, 0 ≤ x → x < sS n D (D + 1) → q x = evV n D p K V m fr x := by
  obtain ⟨hC, S, T, q, rest, hE, hw, hq2, hB⟩ := sV_et hq h hf e hO hn
  subst ho
  have e0 : rest = [] := hB
  subst e0
  refine ⟨hC, q, hw, fun x x0 x1 => ?_⟩
  rw [(hq2 x x0 x1).1]
  unfold evV
  rw [hm, hE, show (0 : Int) * 364 + x = x by omega]
theorem sQ_end (hq : sQp K fr t o H F L BE) (ho : o = 0) (e : etQ o H M F L BE C CO CI H' F' L' BE' C' CO' CI') {m : Int} (hm : enD K m fr = t) : BE' 0 = lgV K m fr := by
  obtain ⟨h1, h2, ⟨A, B, h3, h4, h5⟩, h6⟩ := hq
  subst ho
  have k := h5 0 (Int.le_refl 0) (Int.le_refl 0)
  rw [e.2.2.2.1, if_pos rfl, k.1, k.2]
  unfold lgV
  rw [hm, h3]
end SQ
theorem bx_1 {BE L : Int → Int} {o : Int} (h : L o ≤ BE o) : ∀ l, BE l = if l = o then max (BE o) (L o) else BE l := fun l => by
  by_cases c : l = o
  · rw [if_pos c, c]; omega
  · rw [if_neg c]
theorem bx_2 {BE L : Int → Int} {o : Int} (h : ¬ L o ≤ BE o) : ∀ l, up BE o (L o) l = if l = o then max (BE o) (L o) else BE l := fun l => by
  by_cases c : l = o
  · rw [if_pos c, c, up_eq]; omega
  · rw [if_neg c, up_ne c]
theorem et_b {o C C' : Int} {H M F L BE CO CI H' F' L' BE' CO' CI' : Int → Int} (e : etQ o H M F L BE C CO CI H' F' L' BE' C' CO' CI') : C ≤ C' ∧ C' ≤ C + 1 := by
  rcases e.2.2.2.2 with q | q <;> omega
theorem cd_9 {C C' : Int} (h : 0 ≤ C ∧ C < 897) (k : C ≤ C' ∧ C' ≤ C + 1) : 0 ≤ C' ∧ C' < 899 := by omega
theorem et_f {o C C' : Int} {H M F L BE CO CI H' F' L' BE' CO' CI' : Int → Int} (e : etQ o H M F L BE C CO CI H' F' L' BE' C' CO' CI') (h : 0 ≤ F (o - 1) ∧ F (o - 1) ≤ 1000) : 0 ≤ F' (o - 1) ∧ F' (o - 1) ≤ 1000 := by
  rw [e.2.1, up_ne (by omega)]
  exact h
