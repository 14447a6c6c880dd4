/-! one letter: its laws are its powers -/
def pw (X : q2) : Nat → q2
  | 0 => q2I
  | d + 1 => q2m (pw X d) X
theorem wpr_pw (V : Int → q2) : ∀ d : Nat, wpr V 1 d 0 = pw (V 0) d
  | 0 => rfl
  | d + 1 => by
    show q2m (wpr V 1 d (0 / 1)) (V (0 % 1)) = q2m (pw (V 0) d) (V 0)
    rw [show (0 : Int) / 1 = 0 from rfl, show (0 : Int) % 1 = 0 from rfl, wpr_pw V d]
theorem q2z_m {p : Int} {M N : q2} (h : q2z p M) : q2z p (q2m M N) := q2z_iff.mpr (q2E_t (q2E_m (q2z_iff.mp h) (q2E_r p N)) (q2E_of (q2_Om N)))
theorem q2z_l {p : Int} {M N : q2} (h : q2z p N) : q2z p (q2m M N) := q2z_iff.mpr (q2E_t (q2E_m (q2E_r p M) (q2z_iff.mp h)) (q2E_of (q2_mO M)))
theorem pw_up {p : Int} {X : q2} {d : Nat} (h : q2z p (pw X d)) : ∀ e : Nat, q2z p (pw X (d + e))
  | 0 => h
  | e + 1 => q2z_m (pw_up h e)
theorem pw_2 {X : q2} (d : Nat) : pw X (d + 2) = q2m (pw X d) (q2m X X) := q2_as _ _ _
theorem dg_tab {p : Nat} (h : z7k p = true) {a : Int} (hp : 2 ≤ p) (hz : q2z p (pw (rh 2 p a) 7)) : q2z p (q2m (rh 2 p a) (rh 2 p a)) := by
  have hm : ∀ z : Int, ∃ k : Nat, k < p ∧ z % (p : Int) = (k : Int) := fun z => ⟨(z % (p : Int)).toNat, by have := Int.emod_lt_of_pos z (show (0 : Int) < p by omega); have := Int.emod_nonneg z (show (p : Int) ≠ 0 by omega); omega, by have := Int.emod_nonneg z (show (p : Int) ≠ 0 by omega); omega⟩
  obtain ⟨a0, h0, e0⟩ := hm a
  obtain ⟨a1, h1, e1⟩ := hm (a / p)
  obtain ⟨a2, h2, e2⟩ := hm (a / p / p)
  obtain ⟨a3, h3, e3⟩ := hm (a / p / p / p)
  have er : rh 2 p a = ((a0 : Int), (a1 : Int), (a2 : Int), (a3 : Int)) := by
    unfold rh
    rw [if_neg (by decide), e0, e1, e2, e3]
  rw [er] at hz ⊢
  unfold z7k at h
  have k1 := List.all_eq_true.mp (List.all_eq_true.mp (List.all_eq_true.mp (List.all_eq_true.mp h a3 (List.mem_range.mpr h3)) a2 (List.mem_range.mpr h2)) a1 (List.mem_range.mpr h1)) a0 (List.mem_range.mpr h0)
  have k2 : (q2b p (q2m ((a0 : Int), (a1 : Int), (a2 : Int), (a3 : Int)) ((a0 : Int), (a1 : Int), (a2 : Int), (a3 : Int))) || !q2b p (q2m (q2m (q2m (q2m ((a0 : Int), (a1 : Int), (a2 : Int), (a3 : Int)) ((a0 : Int), (a1 : Int), (a2 : Int), (a3 : Int))) (q2m ((a0 : Int), (a1 : Int), (a2 : Int), (a3 : Int)) ((a0 : Int), (a1 : Int), (a2 : Int), (a3 : Int)))) (q2m ((a0 : Int), (a1 : Int), (a2 : Int), (a3 : Int)) ((a0 : Int), (a1 : Int), (a2 : Int), (a3 : Int)))) ((a0 : Int), (a1 : Int), (a2 : Int), (a3 : Int)))) = true := k1
  generalize hX : (((a0 : Int), (a1 : Int), (a2 : Int), (a3 : Int)) : q2) = X at k2 hz ⊢
  have e7 : q2m (q2m (q2m (q2m X X) (q2m X X)) (q2m X X)) X = pw X 7 := by
    show _ = q2m (q2m (q2m (q2m (q2m (q2m (q2m q2I X) X) X) X) X) X) X
    rw [q2_Il]
    simp only [q2_as]
  rw [e7, q2b_iff.mpr hz] at k2
  exact q2b_iff.mp (by simpa using k2)
def p13 (p : Int) : Prop := p = 5 ∨ p = 7 ∨ p = 11 ∨ p = 13
theorem p13_t {p : Int} (h : p13 p) {a : Int} (hz : q2z p (pw (rh 2 p a) 7)) : q2z p (q2m (rh 2 p a) (rh 2 p a)) := by
  rcases h with rfl | rfl | rfl | rfl
  · exact dg_tab (p := 5) z7_5 (by decide) hz
  · exact dg_tab (p := 7) z7_7 (by decide) hz
  · exact dg_tab (p := 11) z7_11 (by decide) hz
  · exact dg_tab (p := 13) z7_13 (by decide) hz
theorem p13_s {p : Int} (h : p13 p) : z2s p = p * p := by
  rcases h with rfl | rfl | rfl | rfl
  · exact z2_5
  · exact z2_7
  · exact z2_11
  · exact z2_13
theorem z2_sum {p : Int} (hp : 2 ≤ p) : sm (fun a => z2c p (rh 2 p a)) (sqN 2 p).toNat = z2s p := by
  have e : (sqN 2 p).toNat = ((p.toNat * p.toNat) * p.toNat) * p.toNat := by
    unfold sqN
    rw [if_neg (by decide), toNat_mul' (Int.mul_nonneg (Int.mul_nonneg (by omega) (by omega)) (by omega)) (by omega), toNat_mul' (Int.mul_nonneg (by omega) (by omega)) (by omega), toNat_mul' (by omega) (by omega)]
  have ep : ((p.toNat : Nat) : Int) = p := by omega
  rw [e, sm_two, sm_two, sm_two]
  unfold z2s
  refine sm_ext _ (fun d d0 d1 => sm_ext _ (fun c c0 c1 => sm_ext _ (fun b b0 b1 => sm_ext _ (fun a a0 a1 => ?_))))
  show z2c p (rh 2 p (((d * (p.toNat : Int) + c) * (p.toNat : Int) + b) * (p.toNat : Int) + a)) = z2c p (a, b, c, d)
  rw [ep]
  have q1 := dv_q (W := p) (y := (d * p + c) * p + b) a0 (by omega)
  have q2 := dv_q (W := p) (y := d * p + c) b0 (by omega)
  have q3 := dv_q (W := p) (y := d) c0 (by omega)
  have er : rh 2 p (((d * p + c) * p + b) * p + a) = (a, b, c, d) := by
    unfold rh
    rw [if_neg (by decide), q1.2, q1.1, q2.2, q2.1, q3.2, q3.1, Int.emod_eq_of_lt d0 (by omega)]
  rw [er]
/-- which of the laws' lengths is the least -/
def lsI (LN : Int → Int) (i L : Int) : Prop := (L = -1 ∧ ∀ k, 0 ≤ k → k < i → LN k ≤ 0) ∨ (0 < L ∧ (∃ k, (0 ≤ k ∧ k < i) ∧ LN k = L) ∧ ∀ k, 0 ≤ k → k < i → 0 < LN k → L ≤ LN k)
theorem ls_0 {LN : Int → Int} : lsI LN 0 (-1) := .inl ⟨rfl, fun k a b => by omega⟩
theorem ls_no {LN : Int → Int} {i L : Int} (h : lsI LN i L) (hx : LN i ≤ 0 ∨ (¬ L = -1 ∧ L ≤ LN i)) : lsI LN (i + 1) L := by
  rcases h with ⟨h1, h2⟩ | ⟨h1, ⟨k, h2, h3⟩, h4⟩
  · refine .inl ⟨h1, fun k a b => ?_⟩
    by_cases e : k = i
    · rw [e]; omega
    · exact h2 k a (by omega)
  · refine .inr ⟨h1, ⟨k, by omega, h3⟩, fun j a b c => ?_⟩
    by_cases e : j = i
    · rw [e] at c ⊢; omega
    · exact h4 j a (by omega) c
theorem ls_new {LN : Int → Int} {i L : Int} (hi : 0 ≤ i) (h : lsI LN i L) (h1 : 0 < LN i) (h2 : L = -1 ∨ LN i < L) : lsI LN (i + 1) (LN i) := by
  refine .inr ⟨h1, ⟨i, by omega, rfl⟩, fun j a b c => ?_⟩
  by_cases e : j = i
  · rw [e]; omega
  · rcases h with ⟨g1, g2⟩ | ⟨g1, -, g4⟩
    · have := g2 j a (by omega); omega
    · have := g4 j a (by omega) c; omega
theorem q2z_c {p c : Int} {M : q2} (hp : sPr p) (hc : ¬ c % p = 0) : q2z p (q2s c M) ↔ q2z p M := by
  have hd : ¬ p ∣ c := fun q => hc (Int.emod_eq_zero_of_dvd q)
  have one : ∀ x : Int, (c * x) % p = 0 ↔ x % p = 0 := fun x => ⟨fun q => Int.emod_eq_zero_of_dvd (pr_mul hp (Int.dvd_of_emod_eq_zero q) hd), fun q => Int.emod_eq_zero_of_dvd (Int.dvd_mul_of_dvd_right (Int.dvd_of_emod_eq_zero q))⟩
  unfold q2z q2s
  rw [one, one, one, one]
theorem one_cnt {p D : Int} {LN LR : Int → Int} {m L : Int} (hp : sPr p) (h13 : p13 p) (hm : 0 ≤ m) (hD : 1 ≤ D ∧ D ≤ 7) (hl : ∀ i, 0 ≤ i → i < m → 0 < LN i → LN i ≤ D ∧ ¬ LR (i * 256 + 0) % p = 0) (hL : lsI LN m L) :
    cnt (sqN 2 p) 1 (HWc 2 p 1 D LN m LR) 1 (fun _ => 0) = if L = -1 then p * p * p * p else if L = 1 then 1 else p * p := by
  have h2 := hp.1
  have eS : sqN 2 p = p * p * p * p := by unfold sqN; rw [if_neg (by decide)]
  have hS := sqN_p (s := 2) h2
  -- what holds of a square
  have key : ∀ a : Int, alw p 1 D LN (fun i w => LR (i * 256 + w)) (fun x => rh 2 p (up (fun _ => 0) (1 - (((0 : Nat) : Int) + 1)) a x)) m.toNat ↔ ∀ i, 0 ≤ i → i < m → 0 < LN i → q2z p (pw (rh 2 p a) (LN i).toNat) := fun a => by
    rw [alw_iff]
    have conv : ∀ i, 0 ≤ i → i < m → 0 < LN i → (q2z p (lvl (fun x => rh 2 p (up (fun _ => 0) (1 - (((0 : Nat) : Int) + 1)) a x)) 1 (sW 1 D (LN i)) (LN i).toNat (fun w => LR (i * 256 + w))) ↔ q2z p (pw (rh 2 p a) (LN i).toNat)) := fun i a0 a1 a2 => by
      have e1 : sW 1 D (LN i) = 1 := by rw [sW_in (by omega) (hl i a0 a1 a2).1]; exact Int.one_pow
      unfold lvl
      rw [e1]
      show q2z p (q2a q2O (q2s (LR (i * 256 + ((0 : Nat) : Int))) (wpr (fun x => rh 2 p (up (fun _ => 0) (1 - (((0 : Nat) : Int) + 1)) a x)) 1 (LN i).toNat ((0 : Nat) : Int)))) ↔ _
      rw [show ((0 : Nat) : Int) = 0 from rfl, wpr_pw, show (1 - ((0 : Int) + 1)) = 0 by decide, up_eq]
      have e2 : ∀ M : q2, q2a q2O M = M := fun M => by apply q2x <;> simp only [q2a, q2O] <;> omega
      rw [e2, q2z_c hp (hl i a0 a1 a2).2]
    exact ⟨fun g i a0 a1 a2 => (conv i a0 a1 a2).mp (g i a0 (by omega) a2), fun g i a0 a1 a2 => (conv i a0 (by omega) a2).mpr (g i a0 (by omega) a2)⟩
  show sm (fun a => HWc 2 p 1 D LN m LR (up (fun _ => 0) (1 - (((0 : Nat) : Int) + 1)) a)) (sqN 2 p).toNat = _
  have hHW : ∀ (a : Int) (P : Prop) [Decidable P], (P ↔ ∀ i, 0 ≤ i → i < m → 0 < LN i → q2z p (pw (rh 2 p a) (LN i).toNat)) → HWc 2 p 1 D LN m LR (up (fun _ => 0) (1 - (((0 : Nat) : Int) + 1)) a) = if P then 1 else 0 := fun a P _ g => by
    by_cases q : P
    · rw [if_pos q]; exact alH_t ((key a).mpr (g.mp q))
    · rw [if_neg q]; exact alH_f (fun z => q (g.mpr ((key a).mp z)))
  rcases hL with ⟨l1, l2⟩ | ⟨l1, ⟨k, l2, l3⟩, l4⟩
  · rw [if_pos l1, sm_ext (g := fun _ => 1) _ (fun a _ _ => by
      rw [hHW a True ⟨fun _ i a0 a1 a2 => by have := l2 i a0 a1; omega, fun _ => trivial⟩, if_pos trivial])]
    have e : ∀ k : Nat, sm (fun _ => 1) k = k := by
      intro k
      induction k with
      | zero => rfl
      | succ k ih => show sm (fun _ => 1) k + 1 = ((k + 1 : Nat) : Int); rw [ih]; omega
    rw [e, ← eS]; omega
  · rw [if_neg (by omega)]
    by_cases g : L = 1
    · rw [if_pos g, sm_ext (g := fun a => if a = 0 then 1 else 0) _ (fun a a0 a1 => by
        refine hHW a (a = 0) ⟨fun q i i0 i1 i2 => ?_, fun q => ?_⟩
        · have e : (LN i).toNat = 1 + ((LN i).toNat - 1) := by omega
          rw [e]
          refine pw_up (d := 1) ?_ _
          show q2z p (q2m q2I (rh 2 p a))
          rw [q2_Il]
          exact (rh_z h2 ⟨a0, by omega⟩).mp q
        · have := q k l2.1 l2.2 (by omega)
          rw [l3, g] at this
          have : q2z p (q2m q2I (rh 2 p a)) := this
          rw [q2_Il] at this
          exact (rh_z h2 ⟨a0, by omega⟩).mpr this)]
      rw [sm_one (k := 0) (sqN 2 p).toNat (Int.le_refl 0) (by omega) (fun j _ _ q => if_neg q), if_pos rfl]
    · rw [if_neg g, sm_ext (g := fun a => z2c p (rh 2 p a)) _ (fun a a0 a1 => by
        refine hHW a (q2b p (q2m (rh 2 p a) (rh 2 p a)) = true) ⟨fun q i i0 i1 i2 => ?_, fun q => ?_⟩
        · have := l4 i i0 i1 i2
          have e : (LN i).toNat = ((LN i).toNat - 2) + 2 := by omega
          rw [e, pw_2]
          exact q2z_l (q2b_iff.mp q)
        · have h3 := q k l2.1 l2.2 (by omega)
          have h4 := pw_up h3 (7 - (LN k).toNat)
          have := (hl k l2.1 l2.2 (by omega)).1
          rw [show (LN k).toNat + (7 - (LN k).toNat) = 7 by omega] at h4
          exact q2b_iff.mpr (p13_t h13 h4))]
      rw [z2_sum h2, p13_s h13]
