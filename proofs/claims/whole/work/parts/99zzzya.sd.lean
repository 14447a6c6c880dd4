/-! how high the pile stands, and that no code word lacks its rows -/
def tF (f : Int) : Int := if 0 < f then 1 else 0
def lvD (H F : Int → Int) (o : Int) : Int := sm (fun l => H l + tF (F l)) (o + 1).toNat
def dKs (c d : Int) : Int := if c < 2 then d + 1 else if c = 5 then d else d - 1
def dKn (CO : Int → Int) (c0 : Int) : Nat → Int
  | 0 => 0
  | k + 1 => dKs (CO (c0 + k)) (dKn CO c0 k)
/-- one code word on a pile of d rows -/
def okC1 (lm c v d : Int) : Prop := (0 ≤ c ∧ c ≤ 5) ∧ (c = 0 → 0 ≤ v ∧ v ≤ 9999) ∧ (c = 1 → 0 ≤ v ∧ v < lm) ∧ (c = 5 → 1 ≤ d) ∧ (2 ≤ c → ¬ c = 5 → 2 ≤ d) ∧ 0 ≤ d ∧ d ≤ 14
def okK (lm : Int) (CO CI : Int → Int) (c0 : Int) (m : Nat) : Prop := ∀ k : Nat, k < m → okC1 lm (CO (c0 + k)) (CI (c0 + k)) (dKn CO c0 k)
theorem dKn_c {CO CO' : Int → Int} {c0 : Int} : ∀ k : Nat, (∀ j : Int, c0 ≤ j → j < c0 + k → CO j = CO' j) → dKn CO c0 k = dKn CO' c0 k
  | 0, _ => rfl
  | k + 1, h => by
    show dKs (CO (c0 + k)) (dKn CO c0 k) = dKs (CO' (c0 + k)) (dKn CO' c0 k)
    rw [dKn_c k (fun j a b => h j a (by omega)), h (c0 + k) (by omega) (by omega)]
theorem dKn_s {CO : Int → Int} {c0 C w : Int} (h : c0 ≤ C) : dKn (up CO C w) c0 (C + 1 - c0).toNat = dKs w (dKn CO c0 (C - c0).toNat) := by
  rw [show (C + 1 - c0).toNat = (C - c0).toNat + 1 by omega]
  show dKs (up CO C w (c0 + ((C - c0).toNat : Nat))) (dKn (up CO C w) c0 (C - c0).toNat) = _
  rw [show c0 + (((C - c0).toNat : Nat) : Int) = C by omega, up_eq, dKn_c (CO' := CO) (C - c0).toNat (fun j a b => up_ne (by omega))]
theorem okK_s {CO CI : Int → Int} {lm c0 C w v : Int} (h : c0 ≤ C) (g : okK lm CO CI c0 (C - c0).toNat) (e : okC1 lm w v (dKn CO c0 (C - c0).toNat)) : okK lm (up CO C w) (up CI C v) c0 (C + 1 - c0).toNat := by
  intro k hk
  by_cases q : (k : Int) = C - c0
  · rw [show c0 + (k : Int) = C by omega, up_eq, up_eq, show k = (C - c0).toNat by omega, dKn_c (CO' := CO) (C - c0).toNat (fun j a b => up_ne (by omega))]
    exact e
  · have e2 := g k (by omega)
    rw [up_ne (by omega), up_ne (by omega), dKn_c (CO' := CO) k (fun j a b => up_ne (by omega))]
    exact e2
section LVD
variable {H F H' F' : Int → Int} {o : Int}
theorem lvD_t (ho : 0 ≤ o) : lvD H F o = sm (fun l => H l + tF (F l)) o.toNat + (H o + tF (F o)) := sm_s _ ho
theorem lvP_c (h : ∀ l, 0 ≤ l → l < o → H l = H' l ∧ F l = F' l) : sm (fun l => H l + tF (F l)) o.toNat = sm (fun l => H' l + tF (F' l)) o.toNat := sm_ext _ (fun j a b => by
  show H j + tF (F j) = H' j + tF (F' j)
  rw [(h j a (by omega)).1, (h j a (by omega)).2])
theorem lvP_b (ho : 0 ≤ o) (h : ∀ l, 0 ≤ l → l < o → H l = 0 ∨ H l = 1) : 0 ≤ sm (fun l => H l + tF (F l)) o.toNat ∧ sm (fun l => H l + tF (F l)) o.toNat ≤ 2 * o := by
  have k := sm_b (f := fun l => H l + tF (F l)) (B := 2) o.toNat (fun j a b => by
    have := h j a (by omega)
    show 0 ≤ H j + tF (F j) ∧ H j + tF (F j) ≤ 2
    unfold tF
    split <;> omega)
  omega
theorem tF_1 {f : Int} (h : 0 < f) : tF f = 1 := if_pos h
theorem tF_0 {f : Int} (h : f ≤ 0) : tF f = 0 := if_neg (by omega)
end LVD
/-- the code so far keeps to the pile -/
def sD (lm o : Int) (H F : Int → Int) (C0 C : Int) (CO CI : Int → Int) : Prop := C0 ≤ C ∧ okK lm CO CI C0 (C - C0).toNat ∧ dKn CO C0 (C - C0).toNat = lvD H F o
section SDS
variable {lm o C0 C C' w v : Int} {H M F L BE H' F' L' BE' CO CI CO' CI' : Int → Int}
theorem sD_0 : sD lm 0 (up H 0 0) (up F 0 0) C C CO CI := by
  refine ⟨Int.le_refl _, fun k hk => by omega, ?_⟩
  rw [show (C - C).toNat = 0 by omega, lvD_t (Int.le_refl 0), up_eq, up_eq, tF_0 (Int.le_refl 0)]
  rfl
theorem sD_b (ho : 0 ≤ o ∧ o ≤ 4) (hl : ∀ l, 0 ≤ l → l ≤ o → H l = 0 ∨ H l = 1) : 0 ≤ lvD H F o ∧ lvD H F o ≤ 10 := by
  rw [lvD_t ho.1]
  have k := lvP_b (F := F) ho.1 (fun l a b => hl l a (by omega))
  have := hl o ho.1 (Int.le_refl _)
  have ht : tF (F o) = 0 ∨ tF (F o) = 1 := by
    unfold tF
    split
    · exact .inr rfl
    · exact .inl rfl
  omega
theorem sD_int (ho : 0 ≤ o ∧ o ≤ 4) (hl : ∀ l, 0 ≤ l → l ≤ o → H l = 0 ∨ H l = 1) (h : sD lm o H F C0 C CO CI) (hf : F o ≤ 0) (hv : 0 ≤ v ∧ v ≤ 9999) (e1 : F' = up F o 1) (e2 : CO' = up CO C 0) (e3 : CI' = up CI C v) : sD lm o H F' C0 (C + 1) CO' CI' := by
  subst e1 e2 e3
  have b := sD_b (F := F) ho hl
  refine ⟨by have := h.1; omega, okK_s h.1 h.2.1 ⟨by decide, fun _ => hv, fun q => absurd q (by decide), fun q => absurd q (by decide), fun q => absurd q (by decide), by rw [h.2.2]; omega⟩, ?_⟩
  rw [dKn_s h.1, h.2.2, lvD_t ho.1, lvD_t ho.1, up_eq, tF_0 hf, tF_1 (by decide : (0 : Int) < 1), lvP_c (o := o) (H' := H) (F' := F) (fun l a c => ⟨rfl, up_ne (by omega)⟩)]
  show _ + (H o + 0) + 1 = _
  omega
theorem sD_nam (ho : 0 ≤ o ∧ o ≤ 4) (hl : ∀ l, 0 ≤ l → l ≤ o → H l = 0 ∨ H l = 1) (hF : 0 ≤ F o) (h : sD lm o H F C0 C CO CI) (hv : 0 ≤ v ∧ v < lm) {more : Int} (e : faQ o more F L (C + 1) (up CO C 1) (up CI C v) F' L' C' CO' CI') : sD lm o H F' C0 C' CO' CI' := by
  obtain ⟨rfl, _, e3⟩ := e
  have b := sD_b (F := F) ho hl
  have k1 : okK lm (up CO C 1) (up CI C v) C0 (C + 1 - C0).toNat := okK_s h.1 h.2.1 ⟨by decide, fun q => absurd q (by decide), fun _ => hv, fun q => absurd q (by decide), fun q => absurd q (by decide), by rw [h.2.2]; omega⟩
  have k2 : dKn (up CO C 1) C0 (C + 1 - C0).toNat = lvD H F o + 1 := by rw [dKn_s h.1, h.2.2]; rfl
  have hc : lvD H (up F o (F o + 1)) o = sm (fun l => H l + tF (F l)) o.toNat + (H o + 1) := by
    rw [lvD_t ho.1, up_eq, tF_1 (by omega), lvP_c (o := o) (H' := H) (F' := F) (fun l a c => ⟨rfl, up_ne (by omega)⟩)]
  have hd := lvD_t (H := H) (F := F) ho.1
  have hb := lvP_b (F := F) ho.1 (fun l a c => hl l a (by omega))
  have hh := hl o ho.1 (Int.le_refl _)
  rcases e3 with ⟨a, rfl, rfl, rfl⟩ | ⟨a, rfl, rfl, rfl⟩
  · refine ⟨by have := h.1; omega, k1, ?_⟩
    rw [k2, hc, hd, tF_0 a]
    omega
  · have ht := tF_1 a
    refine ⟨by have := h.1; omega, okK_s (by have := h.1; omega) k1 ⟨by decide, fun q => absurd q (by decide), fun q => absurd q (by decide), fun q => absurd q (by decide), fun _ _ => by rw [k2, hd, ht]; omega, by rw [k2]; omega⟩, ?_⟩
    rw [dKn_s (by have := h.1; omega), k2, hc, hd, ht]
    show _ - 1 = _
    omega
theorem sD_opn (ho : 0 ≤ o) (h : sD lm o H F C0 C CO CI) : sD lm (o + 1) (up H (o + 1) 0) (up F (o + 1) 0) C0 C CO CI := by
  refine ⟨h.1, h.2.1, ?_⟩
  rw [h.2.2, lvD_t (o := o + 1) (by omega), up_eq, up_eq, tF_0 (Int.le_refl 0), lvP_c (o := o + 1) (H := up H (o + 1) 0) (F := up F (o + 1) 0) (H' := H) (F' := F) (fun l a c => ⟨up_ne (by omega), up_ne (by omega)⟩)]
  show lvD H F o = lvD H F o + (0 + 0)
  omega
theorem sD_et (ho : 0 ≤ o ∧ o ≤ 4) (hl : ∀ l, 0 ≤ l → l ≤ o → H l = 0 ∨ H l = 1) (hf : 0 < F o) (h : sD lm o H F C0 C CO CI) (e : etQ o H M F L BE C CO CI H' F' L' BE' C' CO' CI') : sD lm o H' F' C0 C' CO' CI' := by
  obtain ⟨rfl, rfl, _, _, e5⟩ := e
  have b := sD_b (F := F) ho hl
  have hc : lvD (up H o 1) (up F o 0) o = sm (fun l => H l + tF (F l)) o.toNat + 1 := by
    rw [lvD_t ho.1, up_eq, up_eq, tF_0 (Int.le_refl 0), lvP_c (o := o) (H := up H o 1) (F := up F o 0) (H' := H) (F' := F) (fun l a c => ⟨up_ne (by omega), up_ne (by omega)⟩)]
    omega
  have hd := lvD_t (H := H) (F := F) ho.1
  rw [tF_1 hf] at hd
  have hb := lvP_b (F := F) ho.1 (fun l a c => hl l a (by omega))
  have hh := hl o ho.1 (Int.le_refl _)
  rcases e5 with ⟨a, c, rfl, rfl, rfl⟩ | ⟨a, rfl, rfl, rfl⟩
  · exact ⟨h.1, h.2.1, by rw [h.2.2, hc, hd, a]; omega⟩
  · by_cases c : H o = 0
    · rw [if_pos c]
      refine ⟨by have := h.1; omega, okK_s h.1 h.2.1 ⟨by decide, fun q => absurd q (by decide), fun q => absurd q (by decide), fun _ => by rw [h.2.2]; omega, fun _ q => absurd rfl q, by rw [h.2.2]; omega⟩, ?_⟩
      rw [dKn_s h.1, h.2.2, hc, hd, c]
      show _ + (0 + 1) = _
      omega
    · rw [if_neg c]
      have h1 : H o = 1 := by omega
      have key : ∀ z : Int, z = 2 ∨ z = 3 → sD lm o (up H o 1) (up F o 0) C0 (C + 1) (up CO C z) (up CI C 0) := fun z hz => by
        refine ⟨by have := h.1; omega, okK_s h.1 h.2.1 ⟨by omega, fun q => by omega, fun q => by omega, fun q => by omega, fun _ _ => by rw [h.2.2]; omega, by rw [h.2.2]; omega⟩, ?_⟩
        rw [dKn_s h.1, h.2.2, hc, hd, h1]
        unfold dKs
        rw [if_neg (by omega), if_neg (by omega)]
        omega
      by_cases m : M o = 0
      · rw [if_pos m]; exact key 2 (.inl rfl)
      · rw [if_neg m]; exact key 3 (.inr rfl)
theorem sD_cls {F1 L1 F2 L2 : Int → Int} {C1 C2 : Int} {CO1 CI1 CO2 CI2 : Int → Int} (ho : 1 ≤ o ∧ o ≤ 4) (hl : ∀ l, 0 ≤ l → l ≤ o → H l = 0 ∨ H l = 1) (hf : 0 < F o) (hF : 0 ≤ F (o - 1)) (h : sD lm o H F C0 C CO CI) (e : etQ o H M F L BE C CO CI H' F1 L1 BE' C1 CO1 CI1) {more : Int} (g : faQ (o - 1) more F1 L1 C1 CO1 CI1 F2 L2 C2 CO2 CI2) : sD lm (o - 1) H' F2 C0 C2 CO2 CI2 := by
  have k := sD_et ⟨by omega, ho.2⟩ hl hf h e
  obtain ⟨rfl, rfl, _, _, _⟩ := e
  obtain ⟨rfl, _, g3⟩ := g
  have hup : up F o 0 (o - 1) = F (o - 1) := up_ne (by omega)
  rw [hup] at g3 ⊢
  have hH1 : ∀ l, 0 ≤ l → l ≤ o → up H o 1 l = 0 ∨ up H o 1 l = 1 := fun l a c => by
    by_cases q : l = o
    · rw [q, up_eq]; exact .inr rfl
    · rw [up_ne q]; exact hl l a c
  have hb := sD_b (H := up H o 1) (F := up F o 0) ⟨by omega, ho.2⟩ hH1
  have hd1 := lvD_t (H := up H o 1) (F := up F o 0) (o := o) (by omega)
  rw [up_eq, up_eq, tF_0 (Int.le_refl 0)] at hd1
  have hd2 : sm (fun l => up H o 1 l + tF (up F o 0 l)) o.toNat = sm (fun l => up H o 1 l + tF (up F o 0 l)) (o - 1).toNat + (up H o 1 (o - 1) + tF (up F o 0 (o - 1))) := by
    have := lvD_t (H := up H o 1) (F := up F o 0) (o := o - 1) (by omega)
    unfold lvD at this
    rw [show o - 1 + 1 = o by omega] at this
    exact this
  rw [hup] at hd2
  have hc : lvD (up H o 1) (up (up F o 0) (o - 1) (F (o - 1) + 1)) (o - 1) = sm (fun l => up H o 1 l + tF (up F o 0 l)) (o - 1).toNat + (up H o 1 (o - 1) + 1) := by
    rw [lvD_t (by omega), up_eq, tF_1 (by omega), lvP_c (o := o - 1) (H' := up H o 1) (F' := up F o 0) (fun l a c => ⟨rfl, up_ne (by omega)⟩)]
  have hb2 := lvP_b (H := up H o 1) (F := up F o 0) (o := o - 1) (by omega) (fun l a c => hH1 l a (by omega))
  have hh := hH1 (o - 1) (by omega) (by omega)
  rcases g3 with ⟨a, rfl, rfl, rfl⟩ | ⟨a, rfl, rfl, rfl⟩
  · refine ⟨k.1, k.2.1, ?_⟩
    rw [k.2.2, hc, hd1, hd2, tF_0 a]
    omega
  · have ht := tF_1 a
    rw [ht] at hd2
    refine ⟨by have := k.1; omega, okK_s k.1 k.2.1 ⟨by decide, fun q => absurd q (by decide), fun q => absurd q (by decide), fun q => absurd q (by decide), fun _ _ => by rw [k.2.2]; omega, by rw [k.2.2]; omega⟩, ?_⟩
    rw [dKn_s k.1, k.2.2, hc, hd1, hd2]
    show _ - 1 = _
    omega
end SDS
