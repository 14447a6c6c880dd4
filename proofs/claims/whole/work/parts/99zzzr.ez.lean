/-! beyond the words there is nothing -/
def evZ (A : Int) (s : evT) : Prop := ∀ l, 0 ≤ l → l ≤ s.1 → ∀ x, A ≤ x → x < 364 → s.2.1 (l * 364 + x) = 0 ∧ s.2.2 (l * 364 + x) = 0
theorem sg_z {f g : Int → Int} {d l x : Int} (hx : 0 ≤ x ∧ x < 364) (h : ¬ l = d → f (l * 364 + x) = 0) (e : l = d → g x = 0) : seg f (d * 364) 364 g (l * 364 + x) = 0 := by
  by_cases q : l = d
  · rw [q, seg_in hx]; exact e q
  · rw [seg_out (by omega)]; exact h q
section OPZ
variable {n D p d l x v : Int} {S T : Int → Int}
theorem aR_z (hx : 0 ≤ x ∧ x < 364) (h : S (l * 364 + x) = 0) (g : l = d → T (l * 364 + x) = 0) : aR p d S T (l * 364 + x) = 0 := sg_z hx (fun _ => h) (fun e => by
  subst e
  show (S (l * 364 + x) + T (l * 364 + x)) % p = 0
  rw [h, g rfl]; exact Int.zero_emod p)
theorem nR_z (hx : 0 ≤ x ∧ x < 364) (h : T (l * 364 + x) = 0) : nR p d v T (l * 364 + x) = 0 := sg_z hx (fun _ => h) (fun e => by
  subst e
  show (T (l * 364 + x) * v) % p = 0
  rw [h, Int.zero_mul]; exact Int.zero_emod p)
theorem lR_z (hO : sOk n D p) (hx : 0 ≤ x ∧ x < 364) (hA : sS n D (D + 1) ≤ x) (h : T (l * 364 + x) = 0) : lR n D p d v T (l * 364 + x) = 0 := sg_z hx (fun _ => h) (fun _ => by
  show prd n D (fun u => T (d * 364 + u)) (eLt v) x % p = 0
  rw [prd_out hO hA]; exact Int.zero_emod p)
theorem mR_z (hO : sOk n D p) (hx : 0 ≤ x ∧ x < 364) (hA : sS n D (D + 1) ≤ x) (h : T (l * 364 + x) = 0) : mR n D p d S T (l * 364 + x) = 0 := sg_z hx (fun _ => h) (fun _ => by
  show prd n D (fun u => T (d * 364 + u)) (fun u => S ((d + 1) * 364 + u)) x % p = 0
  rw [prd_out hO hA]; exact Int.zero_emod p)
theorem zR_z (hx : 0 ≤ x ∧ x < 364) (h : ¬ l = d → S (l * 364 + x) = 0) : seg S (d * 364) 364 (fun _ => 0) (l * 364 + x) = 0 := sg_z hx h (fun _ => rfl)
theorem uR_z {s : Int} (hx : 1 ≤ x ∧ x < 364) (h : ¬ l = d → T (l * 364 + x) = 0) : uR p d s T (l * 364 + x) = 0 := sg_z ⟨by omega, hx.2⟩ h (fun _ => if_neg (by omega))
end OPZ
theorem evs_Z {n D p : Int} {K V : Int → Int} {fr i : Int} {s : evT} (hO : sOk n D p) (h0 : 0 ≤ s.1 ∧ s.1 ≤ 4) (h : evZ (sS n D (D + 1)) s) (hd : ¬ (K i = 5 ∨ K i = 6 ∨ K i = 9 ∨ K i = 10 ∨ K i = 11) → 1 ≤ s.1) : evZ (sS n D (D + 1)) (evs n D p K V fr i s) ∧ 0 ≤ (evs n D p K V fr i s).1 ∧ (evs n D p K V fr i s).1 ≤ 4 := by
  obtain ⟨d, A, B⟩ := s
  dsimp only at h0 hd
  have hS : 1 ≤ sS n D (D + 1) := by
    have := sS_mono (D := D) hO.1.1 (show 1 ≤ D + 1 by have := hO.2.1; omega)
    rw [kl_s1 hO] at this
    exact this
  have hz := fun l a b x x0 x1 => h l a b x x0 x1
  dsimp only at hz
  have hA : ∀ l, 0 ≤ l → l ≤ d → ∀ x, sS n D (D + 1) ≤ x → x < 364 → aR p d A B (l * 364 + x) = 0 := fun l a b x x0 x1 => aR_z ⟨by omega, x1⟩ (hz l a b x x0 x1).1 (fun _ => (hz l a b x x0 x1).2)
  by_cases h1 : K i = 5
  · rw [evs_5 h1]
    exact ⟨fun l a b x x0 x1 => ⟨(hz l a b x x0 x1).1, lR_z hO ⟨by omega, x1⟩ x0 (hz l a b x x0 x1).2⟩, h0⟩
  by_cases h6 : K i = 6
  · rw [evs_6 h6]
    exact ⟨fun l a b x x0 x1 => ⟨(hz l a b x x0 x1).1, nR_z ⟨by omega, x1⟩ (hz l a b x x0 x1).2⟩, h0⟩
  by_cases h9 : K i = 9 ∨ K i = 10
  · by_cases g : fr < i ∧ ¬ K (i - 1) = 11
    · rw [evs_9 h9 g rfl]
      exact ⟨fun l a b x x0 x1 => ⟨hA l a b x x0 x1, uR_z ⟨by omega, x1⟩ (fun _ => (hz l a b x x0 x1).2)⟩, h0⟩
    · rw [evs_9' h9 g rfl]
      exact ⟨fun l a b x x0 x1 => ⟨(hz l a b x x0 x1).1, uR_z ⟨by omega, x1⟩ (fun _ => (hz l a b x x0 x1).2)⟩, h0⟩
  by_cases h11 : K i = 11
  · rw [evs_11 h11]
    refine ⟨fun l a b x x0 x1 => ?_, by show 0 ≤ min (d + 1) 4 ∧ min (d + 1) 4 ≤ 4; omega⟩
    have b2 : l ≤ min (d + 1) 4 := b
    exact ⟨zR_z (d := min (d + 1) 4) ⟨by omega, x1⟩ (fun q => (hz l a (by omega) x x0 x1).1), uR_z (d := min (d + 1) 4) ⟨by omega, x1⟩ (fun q => (hz l a (by omega) x x0 x1).2)⟩
  · have hd1 := hd (by omega)
    rw [evs_12 (by omega)]
    refine ⟨fun l a b x x0 x1 => ?_, by show 0 ≤ max (d - 1) 0 ∧ max (d - 1) 0 ≤ 4; omega⟩
    have b2 : l ≤ max (d - 1) 0 := b
    exact ⟨hA l a (by omega) x x0 x1, mR_z hO ⟨by omega, x1⟩ x0 (hz l a (by omega) x x0 x1).2⟩
theorem evN_Z {n D p : Int} {K V : Int → Int} {fr : Int} {S T : Int → Int} (hO : sOk n D p) : ∀ k : Nat, (∀ j : Nat, j < k → K (fr + j) = 5 ∨ K (fr + j) = 6 ∨ K (fr + j) = 9 ∨ K (fr + j) = 10 ∨ K (fr + j) = 11 ∨ K (fr + j) = 12) → (∀ j : Nat, j < k → K (fr + j) = 12 → 1 ≤ dpN K fr j) → evZ (sS n D (D + 1)) (evN n D p K V fr S T k) ∧ 0 ≤ (evN n D p K V fr S T k).1 ∧ (evN n D p K V fr S T k).1 ≤ 4
  | 0, _, _ => by
    have hS : 1 ≤ sS n D (D + 1) := by
      have := sS_mono (D := D) hO.1.1 (show 1 ≤ D + 1 by have := hO.2.1; omega)
      rw [kl_s1 hO] at this
      exact this
    refine ⟨fun l a b x x0 x1 => ?_, by show (0 : Int) ≤ 0 ∧ (0 : Int) ≤ 4; decide⟩
    have e : l = 0 := by have : l ≤ (0 : Int) := b; omega
    subst e
    have e2 : (0 : Int) * 364 + x = 0 + x := by omega
    refine ⟨?_, ?_⟩
    · show seg S 0 364 (fun _ => 0) (0 * 364 + x) = 0
      rw [e2, seg_in ⟨by omega, x1⟩]
    · exact uR_z (d := 0) (l := 0) ⟨by omega, x1⟩ (fun q => absurd rfl q)
  | k + 1, h, g => by
    have ih := evN_Z (V := V) (S := S) (T := T) hO k (fun j a => h j (by omega)) (fun j a b => g j (by omega) b)
    exact evs_Z hO ih.2 ih.1 (fun q => by rw [dpN_ev k (fun j a => h j (by omega))]; exact g k (by omega) (by have := h k (by omega); omega))
theorem evV_z {n D p : Int} {K V : Int → Int} {m fr : Int} (hO : sOk n D p) (hk : sKd K m fr) (h : dOk K m fr) {x : Int} (hx : sS n D (D + 1) ≤ x ∧ x < 364) : evV n D p K V m fr x = 0 := by
  have hb := sS_b (k := D + 1) hO
  have k := evN_Z (n := n) (D := D) (p := p) (V := V) (S := fun _ => 0) (T := fun _ => 0) hO (enD K m fr - fr).toNat (fun j a => hk (fr + j) (by omega) (by omega)) (fun j a b => by
    have := h (fr + j) (by omega) (by omega) b
    rw [show (fr + (j : Int) - fr).toNat = j by omega] at this
    exact this)
  have k0 := k.1 0 (Int.le_refl 0) k.2.1
  have e : x = 0 * 364 + x := by omega
  unfold evV
  rw [e]
  refine sg_z (d := 0) ⟨by omega, hx.2⟩ (fun q => absurd rfl q) (fun _ => ?_)
  show (_ + _) % p = 0
  have e3 := (k0 x hx.1 hx.2)
  rw [e3.1, e3.2]
  exact Int.zero_emod p
theorem evV_b {n D p : Int} {K V : Int → Int} {m fr : Int} (hp : 0 < p) {x : Int} (hx : 0 ≤ x ∧ x < 364) : 0 ≤ evV n D p K V m fr x ∧ evV n D p K V m fr x < p := by
  unfold evV aR
  have e : x = 0 * 364 + x := by omega
  rw [e, seg_in hx]
  exact md_lt hp
theorem ra_V {NM K PK NU NU' : Int → Int} {n m : Int} (h : raQ NM n K PK NU NU' m) (h6 : ∀ j, 0 ≤ j → j < m → K j = 6 → 0 ≤ NU j ∧ NU j ≤ 9999) (hn : 0 ≤ n) : ∀ j, 0 ≤ j → j < m → (K j = 6 → 0 ≤ NU' j ∧ NU' j ≤ 9999) ∧ (K j = 5 → 0 ≤ NU' j ∧ NU' j < n) := fun j a b => ⟨fun c => by rw [h.2 j (.inl (by omega))]; exact h6 j a b c, fun c => by
  have k := h.1 j a b c
  have q := (fd_b (NM := NM) (pk := PK j) hn)
  rw [k.2]
  exact ⟨q.1, k.1⟩⟩
theorem el_b {K : Int → Int} {T : Nat} {x j : Int} (h : x = T) (g : enD K T 0 = T) (b : j < enD K x 0) : j < T := by
  rw [h, g] at b
  exact b
