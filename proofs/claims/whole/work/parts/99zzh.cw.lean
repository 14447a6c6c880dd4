/-! the model's count of ways -/
theorem qn_nsq {q a n : Int} (h : (q = 1 ∧ a = 1) ∨ (q = 4 ∧ a = 2)) : q * n = nsq n a := by
  unfold nsq
  rcases h with ⟨h1, h2⟩ | ⟨h1, h2⟩ <;> rw [h1, h2] <;> omega
def wV (a p : Int) (g : Int → Int) : Int → q2 := fun x => if a = 1 then rh 1 p (g x) else gv4 g x
def wyU (a p n r : Int) : Int → Int := fun x => if 0 ≤ x ∧ x < n then r / sqN a p ^ x.toNat % sqN a p else 0
section CW
variable {p n D : Int}
theorem wV_1 {g : Int → Int} : wV 1 p g = fun x => rh 1 p (g x) := by
  funext x
  exact if_pos rfl
theorem wV_2 {g : Int → Int} : wV 2 p g = gv4 g := by
  funext x
  exact if_neg (by decide)
theorem ok_n {LN LR : Int → Int} {V : Int → q2} {k r ok : Int} (hk : 0 ≤ k) (h : okL p n D LN LR V k ok) (h0 : ¬ ok = 0) (hr : (r = 1 ∧ (0 < LN k → q2z p (lvl V n (sW n D (LN k)) (LN k).toNat (fun w => LR (k * 256 + w))))) ∨ (r = 0 ∧ ¬ (0 < LN k → q2z p (lvl V n (sW n D (LN k)) (LN k).toNat (fun w => LR (k * 256 + w)))))) : okL p n D LN LR V (k + 1) r := by
  have e : ok = 1 := by rcases h with ⟨a, _⟩ | ⟨a, _⟩ <;> omega
  subst e
  exact ok_s hk h hr
theorem way_ok {q a way m k ok : Int} {G LN LR : Int → Int} (hqa : (q = 1 ∧ a = 1) ∨ (q = 4 ∧ a = 2)) (hp : 2 ≤ p) (hw : 0 ≤ way) (hg : ∀ j, 0 ≤ j → j < q * n → G j = way / p ^ j.toNat % p) (hok : okL p n D LN LR (wV a p G) k ok) (hk : k = m ∨ (ok = 0 ∧ k ≤ m)) (hm : 0 ≤ m) (hl : ∀ i, 0 ≤ i → i < m → 1 ≤ LN i → 0 < n) : ok = HWc a p n D LN m LR (wyU a p n way) := by
  rw [ok_f hok hk hm]
  show alH p n D LN (fun i w => LR (i * 256 + w)) m.toNat (wV a p G) = alH p n D LN (fun i w => LR (i * 256 + w)) m.toNat (fun x => rh a p (wyU a p n way x))
  refine al_c ?_ (fun x h0 h1 => q2E_of ?_)
  · by_cases g : 0 < n
    · exact .inl g
    · exact .inr (fun i a b => by
        rcases Int.lt_or_le 0 (LN i) with c | c
        · exact absurd (hl i a (by omega) c) g
        · exact c)
  · show wV a p G x = rh a p (if 0 ≤ x ∧ x < n then way / sqN a p ^ x.toNat % sqN a p else 0)
    rw [if_pos ⟨h0, h1⟩]
    rcases hqa with ⟨e1, e2⟩ | ⟨e1, e2⟩
    · subst e1; subst e2
      rw [wV_1, show sqN 1 p = p from if_pos rfl]
      show rh 1 p (G x) = _
      rw [hg x h0 (by omega)]
    · subst e1; subst e2
      rw [wV_2]
      exact gv_2 hp ⟨h0, h1⟩ hw hg
theorem cw_fin {q a way m c most : Int} {LN LR : Int → Int} (hqa : (q = 1 ∧ a = 1) ∨ (q = 4 ∧ a = 2)) (hp : 2 ≤ p) (hn : 0 ≤ n) (hw : way = p ^ (q * n).toNat) (h1 : 1 ≤ way) (hmo : way ≤ most) (hc : c = sm (fun r => HWc a p n D LN m LR (wyU a p n r)) way.toNat) : c = wyF a p n D LN m LR most := by
  rw [qn_nsq hqa] at hw
  unfold wyF
  rw [if_neg (by omega), hc]
  refine (wy_all hp hn (by rw [sq_pow (by omega) hn]; omega) (fun r _ _ => rfl)).symm
theorem cw_big {q a most : Int} {LN LR : Int → Int} {m : Int} (hqa : (q = 1 ∧ a = 1) ∨ (q = 4 ∧ a = 2)) (h : most < p ^ (q * n).toNat) : -2 = wyF a p n D LN m LR most := by
  unfold wyF
  rw [qn_nsq hqa] at h
  rw [if_pos h]
end CW
