/-! the reference's tokens: kinds by a map, names with another base -/
def mkM (k : Int) : Int := if k = 1 then 20 else if k = 2 then 21 else if k = 3 then 22 else if k = 4 then 23 else if k = 5 then 1 else if k = 6 then 2 else if k = 7 then 4 else if k = 8 then 10 else if k = 9 then 8 else if k = 10 then 9 else if k = 11 then 6 else if k = 12 then 7 else 3
theorem wf_ext {x : Int} {b c : Int → Int} {i j : Int} : ∀ m : Nat, (∀ t : Int, 0 ≤ t → t < m → b (i + t) = c (j + t)) → wf x b i m = wf x c j m
  | 0, _ => rfl
  | m + 1, h => by
    show x * wf x b i m + (b (i + m) - 96) = x * wf x c j m + (c (j + m) - 96)
    rw [wf_ext m (fun t a e => h t a (by omega)), h m (by omega) (by omega)]
theorem wf_inj {x : Int} (hx : 27 ≤ x) {b c : Int → Int} {i j : Int} : ∀ m m' : Nat, (∀ t : Int, 0 ≤ t → t < m → isLe (b (i + t))) → (∀ t : Int, 0 ≤ t → t < m' → isLe (c (j + t))) → wf x b i m = wf x c j m' → m = m' ∧ ∀ t : Int, 0 ≤ t → t < m → b (i + t) = c (j + t)
  | 0, 0, _, _, _ => ⟨rfl, fun t a e => by omega⟩
  | 0, m' + 1, _, h2, h => by
    exfalso
    have q := wf_b hx m' (fun t a e => h2 t a (by omega))
    have l := h2 m' (by omega) (by omega)
    have e : (0 : Int) = x * wf x c j m' + (c (j + m') - 96) := h
    have p : 0 ≤ x * wf x c j m' := Int.mul_nonneg (by omega) q.1
    unfold isLe at l
    omega
  | m + 1, 0, h1, _, h => by
    exfalso
    have q := wf_b hx m (fun t a e => h1 t a (by omega))
    have l := h1 m (by omega) (by omega)
    have e : x * wf x b i m + (b (i + m) - 96) = (0 : Int) := h
    have p : 0 ≤ x * wf x b i m := Int.mul_nonneg (by omega) q.1
    unfold isLe at l
    omega
  | m + 1, m' + 1, h1, h2, h => by
    have l1 := h1 m (by omega) (by omega)
    have l2 := h2 m' (by omega) (by omega)
    unfold isLe at l1 l2
    have e : x * wf x b i m + (b (i + m) - 96) = x * wf x c j m' + (c (j + m') - 96) := h
    have e1 : (b (i + m) - 96 + x * wf x b i m) % x = (c (j + m') - 96 + x * wf x c j m') % x := by
      rw [Int.add_comm, e, Int.add_comm]
    rw [Int.add_mul_emod_self_left, Int.add_mul_emod_self_left, Int.emod_eq_of_lt (by omega) (by omega), Int.emod_eq_of_lt (by omega) (by omega)] at e1
    have e2 : x * wf x b i m = x * wf x c j m' := by omega
    have e3 := Int.eq_of_mul_eq_mul_left (by omega) e2
    have g := wf_inj hx m m' (fun t a k => h1 t a (by omega)) (fun t a k => h2 t a (by omega)) e3
    refine ⟨by omega, fun t a k => ?_⟩
    by_cases q : t = m
    · rw [q]
      have : (m : Int) = m' := by omega
      rw [← this] at e1
      omega
    · exact g.2 t a (by omega)
/-- one name, told with both bases -/
def nmR (v w : Int) : Prop := ∃ (b : Int → Int) (i : Int) (m : Nat), m ≤ 8 ∧ (∀ t : Int, 0 ≤ t → t < m → isLe (b (i + t))) ∧ v = wf 32 b i m ∧ w = wf 27 b i m
theorem nmR_eq {v w v' w' : Int} (h : nmR v w) (g : nmR v' w') : v = v' ↔ w = w' := by
  obtain ⟨b, i, m, _, h2, h3, h4⟩ := h
  obtain ⟨c, j, m', _, g2, g3, g4⟩ := g
  subst h3 h4 g3 g4
  constructor
  · intro e
    have k := wf_inj (by decide) m m' h2 g2 e
    rw [← k.1]
    exact wf_ext m k.2
  · intro e
    have k := wf_inj (by decide) m m' h2 g2 e
    rw [← k.1]
    exact wf_ext m k.2
def cWp (t : Int) : Int := if t = 0 then 112 else if t = 1 then 114 else if t = 2 then 105 else if t = 3 then 109 else 101
def cWl (t : Int) : Int := if t = 0 then 108 else if t = 1 then 101 else if t = 2 then 116 else if t = 3 then 116 else if t = 4 then 101 else 114
def cWt (t : Int) : Int := if t = 0 then 116 else 111
def cWw (t : Int) : Int := if t = 0 then 108 else if t = 1 then 97 else 119
theorem nm_1 : nmR 17376677 8864267 := ⟨cWp, 0, 5, by decide, fun t a b => by
  have : t = 0 ∨ t = 1 ∨ t = 2 ∨ t = 3 ∨ t = 4 := by omega
  rcases this with rfl | rfl | rfl | rfl | rfl <;> exact ⟨by decide, by decide⟩, by decide, by decide⟩
theorem nm_2 : nmR 408572082 175252482 := ⟨cWl, 0, 6, by decide, fun t a b => by
  have : t = 0 ∨ t = 1 ∨ t = 2 ∨ t = 3 ∨ t = 4 ∨ t = 5 := by omega
  rcases this with rfl | rfl | rfl | rfl | rfl | rfl <;> exact ⟨by decide, by decide⟩, by decide, by decide⟩
theorem nm_3 : nmR 655 555 := ⟨cWt, 0, 2, by decide, fun t a b => by
  have : t = 0 ∨ t = 1 := by omega
  rcases this with rfl | rfl <;> exact ⟨by decide, by decide⟩, by decide, by decide⟩
theorem nm_4 : nmR 12343 8798 := ⟨cWw, 0, 3, by decide, fun t a b => by
  have : t = 0 ∨ t = 1 ∨ t = 2 := by omega
  rcases this with rfl | rfl | rfl <;> exact ⟨by decide, by decide⟩, by decide, by decide⟩
/-- the words of the reference's table -/
def kyQ (KY : Int → Int) : Prop := KY 0 = 8864267 ∧ KY 1 = 175252482 ∧ KY 2 = 555 ∧ KY 3 = 8798
def kyN (KY : Int → Int) (nm : Int) : Nat → Int
  | 0 => 1
  | k + 1 => if KY k = nm then 20 + k else kyN KY nm k
theorem ky_fin {KY : Int → Int} {v w : Int} (h : kyQ KY) (g : nmR v w) : kyN KY w 4 = mkM (wkd v) := by
  obtain ⟨k0, k1, k2, k3⟩ := h
  have e1 := nmR_eq g nm_1
  have e2 := nmR_eq g nm_2
  have e3 := nmR_eq g nm_3
  have e4 := nmR_eq g nm_4
  show (if KY ((3 : Nat) : Int) = w then (20 : Int) + ((3 : Nat) : Int) else if KY ((2 : Nat) : Int) = w then (20 : Int) + ((2 : Nat) : Int) else if KY ((1 : Nat) : Int) = w then (20 : Int) + ((1 : Nat) : Int) else if KY ((0 : Nat) : Int) = w then (20 : Int) + ((0 : Nat) : Int) else 1) = _
  have c0 : KY ((0 : Nat) : Int) = 8864267 := k0
  have c1 : KY ((1 : Nat) : Int) = 175252482 := k1
  have c2 : KY ((2 : Nat) : Int) = 555 := k2
  have c3 : KY ((3 : Nat) : Int) = 8798 := k3
  rw [c0, c1, c2, c3]
  unfold wkd
  by_cases h1 : v = 17376677
  · have := e1.mp h1
    rw [if_pos h1, if_neg (by omega), if_neg (by omega), if_neg (by omega), if_pos (by omega)]; rfl
  rw [if_neg h1]
  have n1 : ¬ w = 8864267 := fun q => h1 (e1.mpr q)
  by_cases h2 : v = 408572082
  · have := e2.mp h2
    rw [if_pos h2, if_neg (by omega), if_neg (by omega), if_pos (by omega)]; rfl
  rw [if_neg h2]
  have n2 : ¬ w = 175252482 := fun q => h2 (e2.mpr q)
  by_cases h3 : v = 655
  · have := e3.mp h3
    rw [if_pos h3, if_neg (by omega), if_pos (by omega)]; rfl
  rw [if_neg h3]
  have n3 : ¬ w = 555 := fun q => h3 (e3.mpr q)
  by_cases h4 : v = 12343
  · have := e4.mp h4
    rw [if_pos h4, if_pos (by omega)]; rfl
  rw [if_neg h4]
  have n4 : ¬ w = 8798 := fun q => h4 (e4.mpr q)
  rw [if_neg (by omega), if_neg (by omega), if_neg (by omega), if_neg (by omega)]; rfl
/-- eight letters are no word of the table -/
theorem wkd_8 {b : Int → Int} {i : Int} (h : ∀ t : Int, 0 ≤ t → t < (8 : Nat) → isLe (b (i + t))) : wkd (wf 32 b i 8) = 5 := by
  have ne : ∀ (c : Int → Int) (m : Nat), m < 8 → (∀ t : Int, 0 ≤ t → t < m → isLe (c (0 + t))) → ¬ wf 32 b i 8 = wf 32 c 0 m := fun c m hm hc e => by
    have := (wf_inj (by decide) 8 m h hc e).1
    omega
  obtain ⟨w1, w2, w3, w4⟩ : (¬ wf 32 b i 8 = 17376677) ∧ (¬ wf 32 b i 8 = 408572082) ∧ (¬ wf 32 b i 8 = 655) ∧ ¬ wf 32 b i 8 = 12343 := by
    refine ⟨?_, ?_, ?_, ?_⟩
    · exact ne cWp 5 (by decide) (fun t a b => by
        have : t = 0 ∨ t = 1 ∨ t = 2 ∨ t = 3 ∨ t = 4 := by omega
        rcases this with rfl | rfl | rfl | rfl | rfl <;> exact ⟨by decide, by decide⟩)
    · exact ne cWl 6 (by decide) (fun t a b => by
        have : t = 0 ∨ t = 1 ∨ t = 2 ∨ t = 3 ∨ t = 4 ∨ t = 5 := by omega
        rcases this with rfl | rfl | rfl | rfl | rfl | rfl <;> exact ⟨by decide, by decide⟩)
    · exact ne cWt 2 (by decide) (fun t a b => by
        have : t = 0 ∨ t = 1 := by omega
        rcases this with rfl | rfl <;> exact ⟨by decide, by decide⟩)
    · exact ne cWw 3 (by decide) (fun t a b => by
        have : t = 0 ∨ t = 1 ∨ t = 2 := by omega
        rcases this with rfl | rfl | rfl <;> exact ⟨by decide, by decide⟩)
  unfold wkd
  rw [if_neg w1, if_neg w2, if_neg w3, if_neg w4]
/-- m tokens kept by the reference -/
def tkM (b : Int → Int) (N m : Int) (K P V NM : Int → Int) : Prop := ∀ j, 0 ≤ j → j < m → tp b N j.toNat < N ∧ K j = mkM (kd b N (tp b N j.toNat)) ∧ P j = tp b N j.toNat ∧ (kd b N (tp b N j.toNat) = 6 → V j = df b (tp b N j.toNat) (te b N (tp b N j.toNat) - tp b N j.toNat).toNat) ∧ (kd b N (tp b N j.toNat) = 5 → NM j = wf 27 b (tp b N j.toNat) (te b N (tp b N j.toNat) - tp b N j.toNat).toNat)
/-- all tokens cut, the end behind them -/
def tkE (b : Int → Int) (N m : Int) (K P V NM : Int → Int) : Prop := (0 ≤ m ∧ m ≤ 401) ∧ tkM b N m K P V NM ∧ (m ≤ 400 → N ≤ tp b N m.toNat ∧ K m = 0 ∧ P m = N)
section TKM
variable {b : Int → Int} {N m i k v nm : Int} {K P V NM : Int → Int}
theorem tkM_0 : tkM b N 0 K P V NM := fun j a c => by omega
theorem tkM_s (hm : 0 ≤ m) (h : tkM b N m K P V NM) (hi : i = tp b N m.toNat) (hl : i < N) (hk : k = mkM (kd b N i)) (hv : kd b N i = 6 → v = df b i (te b N i - i).toNat) (hn : kd b N i = 5 → nm = wf 27 b i (te b N i - i).toNat) : tkM b N (m + 1) (up K m k) (up P m i) (up V m v) (up NM m nm) := by
  intro j a c
  by_cases q : j = m
  · subst q
    rw [up_eq, up_eq, up_eq, up_eq, ← hi]
    exact ⟨hl, hk, rfl, hv, hn⟩
  · rw [up_ne q, up_ne q, up_ne q, up_ne q]
    exact h j a (by omega)
theorem tkE_e (hm : 0 ≤ m ∧ m ≤ 400) (h : tkM b N m K P V NM) (hi : N = tp b N m.toNat) : tkE b N m (up K m 0) (up P m N) (up V m v) (up NM m nm) := by
  refine ⟨by omega, fun j a c => ?_, fun _ => ⟨by omega, up_eq _ _ _, up_eq _ _ _⟩⟩
  have ne : ¬ j = m := by omega
  rw [up_ne ne, up_ne ne, up_ne ne, up_ne ne]
  exact h j a c
theorem tp_n (hm : 0 ≤ m) (hi : i = tp b N m.toNat) : sk b N (te b N i) = tp b N (m + 1).toNat := by
  rw [show (m + 1).toNat = m.toNat + 1 by omega]
  show _ = sk b N (te b N (tp b N m.toNat))
  rw [← hi]
/-- a blank is passed over -/
theorem sk_b (hl : i < N) (h : isBl (b i)) : sk b N i = sk b N (i + 1) := by
  have g := rn_b (q := fun j => isBl (b j)) (N := N) (i := i + 1) (by omega)
  have e : rn (fun j => isBl (b j)) N i = rn (fun j => isBl (b j)) N (i + 1) := rn_eq (by omega) g.1.2 (fun j a c => by
    by_cases q : j = i
    · rw [q]; exact h
    · exact g.2.1 j (by omega) c) g.2.2
  exact e
theorem sk_n (hl : i < N) (h : ¬ isBl (b i)) : sk b N i = i := rn_eq (Int.le_refl i) (by omega) (fun j a c => by omega) (fun _ => h)
theorem sk_N : sk b N N = N := rn_eq (Int.le_refl N) (Int.le_refl N) (fun j a c => by omega) (fun h => absurd h (Int.lt_irrefl N))
end TKM
section TKL
variable {b : Int → Int} {N m i k n v nm : Int} {K P V NM KY : Int → Int}
theorem teL_n (hn : 0 ≤ n ∧ i + n ≤ N) (hl : ∀ j, i ≤ j → j < i + n → isLe (b j)) (he : i + n < N → ¬ isLe (b (i + n))) : teL b N i = i + n := rn_eq (by omega) hn.2 hl he
theorem teD_n (hn : 0 ≤ n ∧ i + n ≤ N) (hl : ∀ j, i ≤ j → j < i + n → isDi (b j)) (he : i + n < N → ¬ isDi (b (i + n))) : teD b N i = i + n := rn_eq (by omega) hn.2 hl he
theorem tkM_L (hm : 0 ≤ m) (h : tkM b N m K P V NM) (hi : i = tp b N m.toNat) (hiN : i < N) (hc : 97 ≤ b i ∧ b i ≤ 122) (hn : 0 ≤ n ∧ i + n ≤ N) (hl : ∀ j, i ≤ j → j < i + n → isLe (b j)) (ht : teL b N i = i + n) (hnm : nm = wf 27 b i (min n 8).toNat) (hky : kyQ KY) (hk : (8 < n ∧ k = 3) ∨ (n = 8 ∧ k = 1) ∨ (n ≤ 7 ∧ k = kyN KY nm 4)) : tkM b N (m + 1) (up K m k) (up P m i) (up V m v) (up NM m nm) ∧ sk b N (i + n) = tp b N (m + 1).toNat := by
  have ht2 : te b N i = i + n := (te_L hc).trans ht
  have hlt : ∀ t : Int, 0 ≤ t → t < n.toNat → isLe (b (i + t)) := fun t a c => hl _ (by omega) (by omega)
  have hkd : kd b N i = if 8 < n then 0 else wkd (wf 32 b i n.toNat) := by
    rw [kd_L hc, ht2, show i + n - i = n by omega]
  refine ⟨tkM_s hm h hi hiN ?_ (fun q => ?_) (fun q => ?_), ?_⟩
  · rw [hkd]
    rcases hk with ⟨a, e⟩ | ⟨a, e⟩ | ⟨a, e⟩
    · rw [if_pos a, e]; rfl
    · rw [if_neg (by omega), e, show n.toNat = 8 by omega, wkd_8 (fun t x y => hlt t x (by omega))]; rfl
    · rw [if_neg (by omega), e]
      exact ky_fin hky ⟨b, i, n.toNat, by omega, hlt, rfl, by rw [hnm, show min n 8 = n by omega]⟩
  · rw [hkd] at q
    by_cases c : 8 < n
    · rw [if_pos c] at q; omega
    · rw [if_neg c] at q
      have := wkd_b (wf 32 b i n.toNat)
      omega
  · rw [hkd] at q
    by_cases c : 8 < n
    · rw [if_pos c] at q; omega
    · rw [hnm, ht2, show min n 8 = n by omega, show i + n - i = n by omega]
  · have := tp_n (b := b) (N := N) hm hi
    rw [ht2] at this
    exact this
theorem tkM_D (hm : 0 ≤ m) (h : tkM b N m K P V NM) (hi : i = tp b N m.toNat) (hiN : i < N) (hc : 48 ≤ b i ∧ b i ≤ 57) (ht : teD b N i = i + n) (hv : v = df b i (min n 4).toNat) (hk : (4 < n ∧ k = 3) ∨ (n ≤ 4 ∧ k = 2)) : tkM b N (m + 1) (up K m k) (up P m i) (up V m v) (up NM m nm) ∧ sk b N (i + n) = tp b N (m + 1).toNat := by
  have hcl : ¬ (97 ≤ b i ∧ b i ≤ 122) := by omega
  have ht2 : te b N i = i + n := (te_D hcl hc).trans ht
  have hkd : kd b N i = if 4 < n then 0 else 6 := by
    rw [kd_D hcl hc, ht2, show i + n - i = n by omega]
  refine ⟨tkM_s hm h hi hiN ?_ (fun q => ?_) (fun q => ?_), ?_⟩
  · rw [hkd]
    rcases hk with ⟨a, e⟩ | ⟨a, e⟩
    · rw [if_pos a, e]; rfl
    · rw [if_neg (by omega), e]; rfl
  · rw [hkd] at q
    by_cases c : 4 < n
    · rw [if_pos c] at q; omega
    · rw [hv, ht2, show min n 4 = n by omega, show i + n - i = n by omega]
  · rw [hkd] at q
    by_cases c : 4 < n
    · rw [if_pos c] at q; omega
    · rw [if_neg c] at q; omega
  · have := tp_n (b := b) (N := N) hm hi
    rw [ht2] at this
    exact this
theorem tkM_S (hm : 0 ≤ m) (h : tkM b N m K P V NM) (hi : i = tp b N m.toNat) (hiN : i < N) (hc : ¬ (97 ≤ b i ∧ b i ≤ 122)) (hc2 : ¬ (48 ≤ b i ∧ b i ≤ 57)) (hk : k = mkM (sgk (b i))) : tkM b N (m + 1) (up K m k) (up P m i) (up V m v) (up NM m nm) ∧ sk b N (i + 1) = tp b N (m + 1).toNat := by
  have s := sgk_n (b i)
  have hkd := kd_S (b := b) (N := N) hc hc2
  refine ⟨tkM_s hm h hi hiN (by rw [hkd]; exact hk) (fun q => ?_) (fun q => ?_), ?_⟩
  · rw [hkd] at q; omega
  · rw [hkd] at q; omega
  · have := tp_n (b := b) (N := N) hm hi
    rw [te_S hc hc2] at this
    exact this
end TKL
section TKB
variable {b : Int → Int} {N i k n v nm d : Int} {KY : Int → Int}
theorem kyN_b : ∀ k : Nat, 1 ≤ kyN KY nm k ∧ kyN KY nm k ≤ 20 + k
  | 0 => ⟨Int.le_refl 1, by show (1 : Int) ≤ 20 + ((0 : Nat) : Int); decide⟩
  | k + 1 => by
    have ih := kyN_b k
    show 1 ≤ (if KY k = nm then (20 : Int) + k else kyN KY nm k) ∧ (if KY k = nm then (20 : Int) + k else kyN KY nm k) ≤ 20 + ((k + 1 : Nat) : Int)
    split <;> omega
theorem ky_b (h : kyQ KY) (h0 : 0 ≤ k) (h1 : k < 4) : i64 (KY k) := by
  obtain ⟨k0, k1, k2, k3⟩ := h
  have : k = 0 ∨ k = 1 ∨ k = 2 ∨ k = 3 := by omega
  unfold i64
  rcases this with rfl | rfl | rfl | rfl <;> omega
theorem kyN_n (hk : 0 ≤ k) (h : ¬ KY k = nm) : kyN KY nm (k + 1).toNat = kyN KY nm k.toNat := by
  rw [show (k + 1).toNat = k.toNat + 1 by omega]
  show (if KY (k.toNat : Nat) = nm then (20 : Int) + (k.toNat : Nat) else kyN KY nm k.toNat) = _
  rw [show ((k.toNat : Nat) : Int) = k by omega, if_neg h]
theorem kyN_y (hk : 0 ≤ k) (h : KY k = nm) : kyN KY nm (k + 1).toNat = 20 + k := by
  rw [show (k + 1).toNat = k.toNat + 1 by omega]
  show (if KY (k.toNat : Nat) = nm then (20 : Int) + (k.toNat : Nat) else kyN KY nm k.toNat) = _
  rw [show ((k.toNat : Nat) : Int) = k by omega, if_pos h]
theorem wf27_b (hn : 0 ≤ n ∧ i + n ≤ N) (hl : ∀ j, i ≤ j → j < i + n → isLe (b j)) (hnm : nm = wf 27 b i (min n 8).toNat) : 0 ≤ nm ∧ nm < 282429536481 := by
  have h := wf_b (x := 27) (b := b) (i := i) (by decide) (min n 8).toNat (fun j p q => hl _ (by omega) (by omega))
  have l : (27 : Int) ^ (min n 8).toNat ≤ 27 ^ 8 := pow_mono (by decide) (by omega)
  have l2 : (27 : Int) ^ 8 = 282429536481 := by decide
  rw [← hnm] at h
  omega
theorem df4_b (hn : 0 ≤ n ∧ i + n ≤ N) (hl : ∀ j, i ≤ j → j < i + n → isDi (b j)) (hv : v = df b i (min n 4).toNat) : 0 ≤ v ∧ v ≤ 9999 := by
  have h := df_bd (b := b) (i := i) (min n 4).toNat (fun j p q => hl j p (by omega))
  have l : (10 : Int) ^ (min n 4).toNat ≤ 10 ^ 4 := pow_mono (by decide) (by omega)
  have l2 : (10 : Int) ^ 4 = 10000 := by decide
  rw [← hv] at h
  omega
theorem wf_nx (hn : 0 ≤ n ∧ n < 8) (hnm : nm = wf 27 b i (min n 8).toNat) (hd : d = b (i + n)) : 27 * nm + (d - 97 + 1) = wf 27 b i (min (n + 1) 8).toNat := by
  rw [show (min (n + 1) 8).toNat = n.toNat + 1 by omega]
  show _ = 27 * wf 27 b i n.toNat + (b (i + (n.toNat : Nat)) - 96)
  rw [hnm, hd, show (min n 8).toNat = n.toNat by omega, show i + ((n.toNat : Nat) : Int) = i + n by omega]
  omega
theorem wf_st (hn : 8 ≤ n) (hnm : nm = wf 27 b i (min n 8).toNat) : nm = wf 27 b i (min (n + 1) 8).toNat := by
  rw [show min (n + 1) 8 = min n 8 by omega]; exact hnm
theorem df_nx (hn : 0 ≤ n ∧ n < 4) (hv : v = df b i (min n 4).toNat) (hd : d = b (i + n)) : 10 * v + d - 48 = df b i (min (n + 1) 4).toNat := by
  rw [show (min (n + 1) 4).toNat = n.toNat + 1 by omega]
  show _ = 10 * df b i n.toNat + (b (i + (n.toNat : Nat)) - 48)
  rw [hv, hd, show (min n 4).toNat = n.toNat by omega, show i + ((n.toNat : Nat) : Int) = i + n by omega]
  omega
theorem df_st (hn : 4 ≤ n) (hv : v = df b i (min n 4).toNat) : v = df b i (min (n + 1) 4).toNat := by
  rw [show min (n + 1) 4 = min n 4 by omega]; exact hv
end TKB
