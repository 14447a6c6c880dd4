/-! squares of one letter: those whose powers are nought -/
def q2b (p : Int) (M : q2) : Bool := M.1 % p == 0 && M.2.1 % p == 0 && M.2.2.1 % p == 0 && M.2.2.2 % p == 0
theorem q2b_iff {p : Int} {M : q2} : q2b p M = true ↔ q2z p M := by
  unfold q2b q2z
  simp only [Bool.and_eq_true, beq_iff_eq]
  constructor
  · rintro ⟨⟨⟨a, b⟩, c⟩, d⟩; exact ⟨a, b, c, d⟩
  · rintro ⟨a, b, c, d⟩; exact ⟨⟨⟨a, b⟩, c⟩, d⟩
def z2c (p : Int) (M : q2) : Int := if q2b p (q2m M M) then 1 else 0
def z2s (p : Int) : Int := sm (fun d => sm (fun c => sm (fun b => sm (fun a => z2c p (a, b, c, d)) p.toNat) p.toNat) p.toNat) p.toNat
def z7k (p : Nat) : Bool := (List.range p).all fun d => (List.range p).all fun c => (List.range p).all fun b => (List.range p).all fun a => let X : q2 := ((a : Int), (b : Int), (c : Int), (d : Int)); let X2 := q2m X X; q2b p X2 || !q2b p (q2m (q2m (q2m X2 X2) X2) X)
set_option maxRecDepth 100000 in
theorem z2_5 : z2s 5 = 25 := by decide +kernel
set_option maxRecDepth 100000 in
theorem z2_7 : z2s 7 = 49 := by decide +kernel
set_option maxRecDepth 100000 in
theorem z2_11 : z2s 11 = 121 := by decide +kernel
set_option maxRecDepth 100000 in
theorem z2_13 : z2s 13 = 169 := by decide +kernel
set_option maxRecDepth 100000 in
theorem z7_5 : z7k 5 = true := by decide +kernel
set_option maxRecDepth 100000 in
theorem z7_7 : z7k 7 = true := by decide +kernel
set_option maxRecDepth 100000 in
theorem z7_11 : z7k 11 = true := by decide +kernel
set_option maxRecDepth 100000 in
theorem z7_13 : z7k 13 = true := by decide +kernel
