/-! THE ENGINE: a small machine over whole numbers that runs the tables of part 02; what it does the real machine does (part 04) -/
abbrev en_v : Type := Int ⊕ Int ⊕ (Nat × Int)
abbrev en_m : Type := Nat → Int → Int
abbrev en_l : Type := List (Option en_v)
def w32 (z : Int) : Int := z.bmod 4294967296
def w64 (z : Int) : Int := z.bmod 18446744073709551616
def en_at : en_c → Nat → Option en_q
  | [], _ => none
  | q :: r, pc => bif Nat.beq q.1 pc then some q else en_at r pc
def en_get : en_l → Nat → Option en_v
  | [], _ => none
  | x :: _, 0 => x
  | _ :: r, n + 1 => en_get r n
def en_set : en_l → Nat → Option en_v → en_l
  | [], _, _ => []
  | _ :: r, 0, v => v :: r
  | x :: r, n + 1, v => x :: en_set r n v
def en_c2 : Option en_v → Bool
  | some (.inr (.inl _)) => true
  | _ => false
def en_kill (ls : en_l) : Nat → en_l
  | 0 => ls
  | n + 1 => bif en_c2 (en_get ls n) then en_set ls n none else ls
def en_s1 (ls : en_l) (i : Nat) (v : en_v) : en_l := en_set (en_kill ls i) i (some v)
def en_s2 (ls : en_l) (i : Nat) (v : en_v) : en_l := en_set (en_s1 ls i v) (i + 1) none
def sr (σ : en_m) (k : Nat) (f : Int → Int) : en_m := fun k' => bif Nat.beq k' k then f else σ k'
def up (f : Int → Int) (i v : Int) : Int → Int := fun j => if j = i then v else f j
def en_cmp (c : Jvm.ClassFile.Cond) (u v : Int) : Bool := match c with
  | .eq => decide (u = v)
  | .ne => !decide (u = v)
  | .lt => decide (u < v)
  | .ge => !decide (u < v)
  | .gt => decide (v < u)
  | .le => !decide (v < u)
def en_len (k : Nat) : Nat := match en_K k with
  | .inr (_, n, _) => n
  | .inl _ => 0
/-- what a field holds -/
def en_fg (σ : en_m) (f : Nat × Nat × Nat) : Option en_v := match f with
  | (0, r, _) => some (.inl (σ r 0))
  | (1, r, _) => some (.inl (σ r 0))
  | (2, r, _) => some (.inr (.inl (σ r 0)))
  | (3, r, _) => some (.inr (.inr (r, 0)))
  | (4, r, t) => if σ r 0 = 0 ∨ σ r 0 = (en_len t : Int) then some (.inr (.inr (t, σ r 0))) else none
  | (5, r, t) => if σ r 0 = 0 then some (.inr (.inr (t, 0))) else if σ r 0 = 1 then some (.inr (.inr (t + 1, 0))) else if σ r 0 = 2 then some (.inr (.inr (t + 2, 0))) else none
  | _ => none
/-- a field is written -/
def en_fp (σ : en_m) (f : Nat × Nat × Nat) (v : en_v) : Option en_m := match f, v with
  | (0, r, _), .inl z => some (sr σ r (fun _ => z))
  | (1, r, _), .inl z => if z = 0 ∨ z = 1 then some (sr σ r (fun _ => z)) else none
  | (2, r, _), .inr (.inl z) => some (sr σ r (fun _ => z))
  | (4, r, t), .inr (.inr (k, b)) => bif Nat.beq k t then (if b = 0 ∨ b = (en_len t : Int) then some (sr σ r (fun _ => b)) else none) else none
  | (5, r, t), .inr (.inr (k, _)) => bif Nat.beq k t then some (sr σ r (fun _ => 0)) else bif Nat.beq k (t + 1) then some (sr σ r (fun _ => 1)) else bif Nat.beq k (t + 2) then some (sr σ r (fun _ => 2)) else none
  | _, _ => none
abbrev en_x : Type := Nat × en_l × List en_v × en_m
def en_cpy (f g : Int → Int) (sp dp n : Int) : Int → Int := fun x => if dp ≤ x ∧ x < dp + n then f (sp + (x - dp)) else g x
def en_iand (x y : Int) : Int := (Int32.ofInt x &&& Int32.ofInt y).toInt
def en_ishr (x y : Int) : Int := (Int32.ofInt x >>> (Int32.ofInt y &&& 31)).toInt
def en_land (x y : Int) : Int := (Int64.ofInt x &&& Int64.ofInt y).toInt
def en_lor (x y : Int) : Int := (Int64.ofInt x ||| Int64.ofInt y).toInt
def en_lshl (x y : Int) : Int := (Int64.ofInt x <<< ((Int32.ofInt y).toInt64 &&& 63)).toInt
def en_lshr (x y : Int) : Int := (Int64.ofInt x >>> ((Int32.ofInt y).toInt64 &&& 63)).toInt
def en_i2b (x : Int) : Int := x.bmod 256
/-- one instruction that is no call and no end -/
def en_st (q : en_q) (ls : en_l) (st : List en_v) (σ : en_m) : Option en_x := match q with
  | (pc, i, len, a, b, _, x) => match i with
    | .aload_n _ | .aload _ => (match en_get ls a with
      | some (.inr (.inr r)) => some (pc + len, ls, .inr (.inr r) :: st, σ)
      | _ => none)
    | .iload_n _ | .iload _ => (match en_get ls a with
      | some (.inl r) => some (pc + len, ls, .inl r :: st, σ)
      | _ => none)
    | .lload_n _ | .lload _ => (match en_get ls a with
      | some (.inr (.inl r)) => some (pc + len, ls, .inr (.inl r) :: st, σ)
      | _ => none)
    | .istore_n _ | .istore _ => (match st with
      | .inl v :: r => some (pc + len, en_s1 ls a (.inl v), r, σ)
      | _ => none)
    | .astore_n _ | .astore _ => (match st with
      | .inr (.inr v) :: r => some (pc + len, en_s1 ls a (.inr (.inr v)), r, σ)
      | _ => none)
    | .lstore_n _ | .lstore _ => (match st with
      | .inr (.inl v) :: r => some (pc + len, en_s2 ls a (.inr (.inl v)), r, σ)
      | _ => none)
    | .iconst n | .bipush n | .sipush n => some (pc + len, ls, .inl n :: st, σ)
    | .ldc _ | .ldc_w _ => bif Nat.beq b 0 then some (pc + len, ls, .inl x :: st, σ) else none
    | .lconst _ | .ldc2_w _ => some (pc + len, ls, .inr (.inl x) :: st, σ)
    | .iadd => (match st with
      | .inl v :: .inl u :: r => some (pc + len, ls, .inl (u + v) :: r, σ)
      | _ => none)
    | .isub => (match st with
      | .inl v :: .inl u :: r => some (pc + len, ls, .inl (u - v) :: r, σ)
      | _ => none)
    | .imul => (match st with
      | .inl v :: .inl u :: r => some (pc + len, ls, .inl (u * v) :: r, σ)
      | _ => none)
    | .idiv => (match st with
      | .inl v :: .inl u :: r => if w32 v = 0 then none else some (pc + len, ls, .inl ((w32 u).tdiv (w32 v)) :: r, σ)
      | _ => none)
    | .irem => (match st with
      | .inl v :: .inl u :: r => if w32 v = 0 then none else some (pc + len, ls, .inl ((w32 u).tmod (w32 v)) :: r, σ)
      | _ => none)
    | .ineg => (match st with
      | .inl u :: r => some (pc + len, ls, .inl (-u) :: r, σ)
      | _ => none)
    | .iand => (match st with
      | .inl v :: .inl u :: r => some (pc + len, ls, .inl (en_iand u v) :: r, σ)
      | _ => none)
    | .ishr => (match st with
      | .inl v :: .inl u :: r => some (pc + len, ls, .inl (en_ishr u v) :: r, σ)
      | _ => none)
    | .ladd => (match st with
      | .inr (.inl v) :: .inr (.inl u) :: r => some (pc + len, ls, .inr (.inl (u + v)) :: r, σ)
      | _ => none)
    | .lsub => (match st with
      | .inr (.inl v) :: .inr (.inl u) :: r => some (pc + len, ls, .inr (.inl (u - v)) :: r, σ)
      | _ => none)
    | .lmul => (match st with
      | .inr (.inl v) :: .inr (.inl u) :: r => some (pc + len, ls, .inr (.inl (u * v)) :: r, σ)
      | _ => none)
    | .lrem => (match st with
      | .inr (.inl v) :: .inr (.inl u) :: r => if w64 v = 0 then none else some (pc + len, ls, .inr (.inl ((w64 u).tmod (w64 v))) :: r, σ)
      | _ => none)
    | .lneg => (match st with
      | .inr (.inl u) :: r => some (pc + len, ls, .inr (.inl (-u)) :: r, σ)
      | _ => none)
    | .land => (match st with
      | .inr (.inl v) :: .inr (.inl u) :: r => some (pc + len, ls, .inr (.inl (en_land u v)) :: r, σ)
      | _ => none)
    | .lor => (match st with
      | .inr (.inl v) :: .inr (.inl u) :: r => some (pc + len, ls, .inr (.inl (en_lor u v)) :: r, σ)
      | _ => none)
    | .lshl => (match st with
      | .inl v :: .inr (.inl u) :: r => some (pc + len, ls, .inr (.inl (en_lshl u v)) :: r, σ)
      | _ => none)
    | .lshr => (match st with
      | .inl v :: .inr (.inl u) :: r => some (pc + len, ls, .inr (.inl (en_lshr u v)) :: r, σ)
      | _ => none)
    | .i2l => (match st with
      | .inl u :: r => some (pc + len, ls, .inr (.inl (w32 u)) :: r, σ)
      | _ => none)
    | .l2i => (match st with
      | .inr (.inl u) :: r => some (pc + len, ls, .inl u :: r, σ)
      | _ => none)
    | .i2b => (match st with
      | .inl u :: r => some (pc + len, ls, .inl (en_i2b u) :: r, σ)
      | _ => none)
    | .lcmp => (match st with
      | .inr (.inl v) :: .inr (.inl u) :: r => some (pc + len, ls, .inl (if w64 u < w64 v then -1 else if w64 v < w64 u then 1 else 0) :: r, σ)
      | _ => none)
    | .dup => (match st with
      | .inl u :: r => some (pc + len, ls, .inl u :: .inl u :: r, σ)
      | .inr (.inr u) :: r => some (pc + len, ls, .inr (.inr u) :: .inr (.inr u) :: r, σ)
      | _ => none)
    | .dup2 => (match st with
      | .inl v :: .inr (.inr u) :: r => some (pc + len, ls, .inl v :: .inr (.inr u) :: .inl v :: .inr (.inr u) :: r, σ)
      | _ => none)
    | .pop => (match st with
      | .inl _ :: r => some (pc + len, ls, r, σ)
      | .inr (.inr _) :: r => some (pc + len, ls, r, σ)
      | _ => none)
    | .goto _ => some (a, ls, st, σ)
    | .iinc n c => (match en_get ls n with
      | some (.inl v) => some (pc + len, en_s1 ls n (.inl (v + c)), st, σ)
      | _ => none)
    | .ifCond c _ => (match st with
      | .inl v :: r => some (bif en_cmp c (w32 v) 0 then a else pc + len, ls, r, σ)
      | _ => none)
    | .if_icmp c _ => (match st with
      | .inl v :: .inl u :: r => some (bif en_cmp c (w32 u) (w32 v) then a else pc + len, ls, r, σ)
      | _ => none)
    | .tableswitch d lo hi offs => (match st with
      | .inl v :: r => if w32 v < lo ∨ hi < w32 v then some (((pc : Int) + d).toNat, ls, r, σ) else (match offs[(w32 v - lo).toNat]? with
        | some o => some (((pc : Int) + o).toNat, ls, r, σ)
        | none => none)
      | _ => none)
    | .lookupswitch d ps => (match st with
      | .inl v :: r => some (((pc : Int) + Op.lookupswitch.offset ps.toList d (w32 v)).toNat, ls, r, σ)
      | _ => none)
    | .getfield _ => (match st with
      | .inr (.inr (k, _)) :: r => (match en_K k with
        | .inl (c, fs) => bif Nat.beq c a then (match fs[b]? with
          | some f => (match en_fg σ f with
            | some v => some (pc + len, ls, v :: r, σ)
            | none => none)
          | none => none) else none
        | _ => none)
      | _ => none)
    | .putfield _ => (match st with
      | v :: .inr (.inr (k, _)) :: r => (match en_K k with
        | .inl (c, fs) => bif Nat.beq c a then (match fs[b]? with
          | some f => (match en_fp σ f v with
            | some σ' => some (pc + len, ls, r, σ')
            | none => none)
          | none => none) else none
        | _ => none)
      | _ => none)
    | .arraylength => (match st with
      | .inr (.inr (k, _)) :: r => (match en_K k with
        | .inr (t, n, _) => bif Nat.ble t 4 then some (pc + len, ls, .inl n :: r, σ) else none
        | _ => none)
      | _ => none)
    | .iaload => (match st with
      | .inl j :: .inr (.inr (k, o)) :: r => (match en_K k with
        | .inr (0, n, _) => if 0 ≤ w32 j ∧ w32 j < n then some (pc + len, ls, .inl (σ k (o + w32 j)) :: r, σ) else none
        | _ => none)
      | _ => none)
    | .baload => (match st with
      | .inl j :: .inr (.inr (k, o)) :: r => (match en_K k with
        | .inr (1, n, _) => if 0 ≤ w32 j ∧ w32 j < n then some (pc + len, ls, .inl (σ k (o + w32 j)) :: r, σ) else none
        | .inr (2, n, _) => if 0 ≤ w32 j ∧ w32 j < n then some (pc + len, ls, .inl (σ k (o + w32 j)) :: r, σ) else none
        | _ => none)
      | _ => none)
    | .laload => (match st with
      | .inl j :: .inr (.inr (k, o)) :: r => (match en_K k with
        | .inr (3, n, _) => if 0 ≤ w32 j ∧ w32 j < n then some (pc + len, ls, .inr (.inl (σ k (o + w32 j))) :: r, σ) else none
        | _ => none)
      | _ => none)
    | .aaload => (match st with
      | .inl j :: .inr (.inr (k, _)) :: r => (match en_K k with
        | .inr (4, n, t) => if 0 ≤ w32 j ∧ w32 j < n then some (pc + len, ls, .inr (.inr (t, w32 j * en_len t)) :: r, σ) else none
        | _ => none)
      | _ => none)
    | .iastore => (match st with
      | .inl v :: .inl j :: .inr (.inr (k, o)) :: r => (match en_K k with
        | .inr (0, n, _) => if 0 ≤ w32 j ∧ w32 j < n then some (pc + len, ls, r, sr σ k (up (σ k) (o + w32 j) v)) else none
        | _ => none)
      | _ => none)
    | .bastore => (match st with
      | .inl v :: .inl j :: .inr (.inr (k, o)) :: r => (match en_K k with
        | .inr (1, n, _) => if (0 ≤ w32 j ∧ w32 j < n) ∧ -128 ≤ v ∧ v < 128 then some (pc + len, ls, r, sr σ k (up (σ k) (o + w32 j) v)) else none
        | .inr (2, n, _) => if (0 ≤ w32 j ∧ w32 j < n) ∧ (v = 0 ∨ v = 1) then some (pc + len, ls, r, sr σ k (up (σ k) (o + w32 j) v)) else none
        | _ => none)
      | _ => none)
    | .lastore => (match st with
      | .inr (.inl v) :: .inl j :: .inr (.inr (k, o)) :: r => (match en_K k with
        | .inr (3, n, _) => if 0 ≤ w32 j ∧ w32 j < n then some (pc + len, ls, r, sr σ k (up (σ k) (o + w32 j) v)) else none
        | _ => none)
      | _ => none)
    | .invokestatic _ => bif Nat.beq b 100 then (match st with
      | .inl n :: .inl dp :: .inr (.inr (kd, bd)) :: .inl sp :: .inr (.inr (ks, bs)) :: r => (match en_K kd, en_K ks with
        | .inr (td, nd, _), .inr (ts, ns, _) => bif Nat.beq td ts && (Nat.beq td 0 || Nat.beq td 3) && Nat.ble r.length 3 then
            (if (0 ≤ w32 n ∧ 0 ≤ w32 dp ∧ 0 ≤ w32 sp) ∧ w32 dp + w32 n ≤ nd ∧ w32 sp + w32 n ≤ ns then
              some (pc + len, ls, r, sr σ kd (en_cpy (σ ks) (σ kd) (bs + w32 sp) (bd + w32 dp) (w32 n))) else none) else none
        | _, _ => none)
      | _ => none) else bif Nat.beq b 101 then (match st with
      | .inl v :: .inl u :: r => bif Nat.ble r.length 8 then some (pc + len, ls, .inl (if w32 u < w32 v then v else u) :: r, σ) else none
      | _ => none) else bif Nat.beq b 102 then (match st with
      | .inl v :: .inl u :: r => bif Nat.ble r.length 8 then some (pc + len, ls, .inl (if w32 v < w32 u then v else u) :: r, σ) else none
      | _ => none) else none
    | _ => none
def en_pop : Nat → List en_v → List en_v → Option (List en_v × List en_v)
  | 0, r, acc => some (acc, r)
  | _ + 1, [], _ => none
  | n + 1, v :: r, acc => en_pop n r (v :: acc)
def en_w1 : en_v → Nat
  | .inr (.inl _) => 2
  | _ => 1
def en_sum : List en_v → Nat
  | [] => 0
  | v :: r => en_w1 v + en_sum r
/-- locals at the entry -/
def en_pad : Nat → en_l → en_l
  | 0, _ => []
  | n + 1, [] => none :: en_pad n []
  | n + 1, x :: r => x :: en_pad n r
def en_args : List en_v → en_l
  | [] => []
  | .inr (.inl v) :: r => some (.inr (.inl v)) :: none :: en_args r
  | v :: r => some v :: en_args r
def en_ent (z : Nat) (as : List en_v) : en_l := en_pad (en_D z).2.2.1 (en_args as)
/-- methods that are not run here: wordKind -/
def en_wk (v : Int) : Int := if w64 v = 17376677 then 1 else if w64 v = 408572082 then 2 else if w64 v = 655 then 3 else if w64 v = 12343 then 4 else 5
def en_bi (z : Nat) (as : List en_v) : Option (Option en_v) := bif Nat.beq z z_X10_wordKind then (match as with
    | [.inr (.inl v)] => some (some (.inl (en_wk v)))
    | _ => none) else none
def en_ret (b : Nat) (v : Int) : Bool := bif Nat.beq b 1 then (decide (v = 0) || decide (v = 1)) else true
abbrev en_f : Type := en_c → Nat → en_l → List en_v → en_m → Option (Option en_v × en_m)
def en_go (f : en_f) (c : en_c) : Option en_x → Option (Option en_v × en_m)
  | some (pc', ls', st', σ') => f c pc' ls' st' σ'
  | none => none
def en_bk (f : en_f) (c : en_c) (pc : Nat) (ls : en_l) (r : List en_v) : Option (Option en_v × en_m) → Option (Option en_v × en_m)
  | some (v, σ') => f c pc ls (v.toList ++ r) σ'
  | none => none
def en_cl (f : en_f) (q : en_q) (c : en_c) (pc : Nat) (ls : en_l) (σ : en_m) : Option (List en_v × List en_v) → Option (Option en_v × en_m)
  | some (as, r) => bif Nat.ble (en_sum r) 8 && Nat.ble (en_sum as) (en_D q.2.2.2.1).2.2.1 then (match en_bi q.2.2.2.1 as with
      | some v => f c (pc + q.2.2.1) ls (v.toList ++ r) σ
      | none => en_bk f c (pc + q.2.2.1) ls r (f (en_T q.2.2.2.1) 0 (en_ent q.2.2.2.1 as) [] σ)) else none
  | none => none
/-- the receiver's class is the one that is named -/
def en_rcv (x : Int) : Option (List en_v × List en_v) → Option (List en_v × List en_v)
  | some (.inr (.inr (k, o)) :: as, r) => (match en_K k with
    | .inl (ci, _) => bif Nat.beq ci x.toNat then some (.inr (.inr (k, o)) :: as, r) else none
    | _ => none)
  | _ => none
def en_by (f : en_f) (q : en_q) (c : en_c) (pc : Nat) (ls : en_l) (st : List en_v) (σ : en_m) : Option (Option en_v × en_m) := match q.2.1 with
  | .return_ => (match st with
    | [] => some (none, σ)
    | _ => none)
  | .ireturn => (match st with
    | [.inl v] => bif en_ret q.2.2.2.2.1 v then some (some (.inl v), σ) else none
    | _ => none)
  | .lreturn => (match st with
    | [.inr (.inl v)] => some (some (.inr (.inl v)), σ)
    | _ => none)
  | .areturn => (match st with
    | [.inr (.inr v)] => if v ∈ en_C then some (some (.inr (.inr v)), σ) else none
    | _ => none)
  | .invokevirtual _ => en_cl f q c pc ls σ (en_rcv q.2.2.2.2.2.2 (en_pop q.2.2.2.2.1 st []))
  | .invokestatic _ => bif Nat.ble 100 q.2.2.2.2.1 then en_go f c (en_st q ls st σ) else en_cl f q c pc ls σ (en_pop q.2.2.2.2.1 st [])
  | _ => en_go f c (en_st q ls st σ)
/-- the machine, so many steps and calls deep: the answer and what the cells hold then -/
def en_ev : Nat → en_f
  | 0 => fun _ _ _ _ _ => none
  | n + 1 => fun c pc ls st σ => match en_at c pc with
    | none => none
    | some q => en_by (en_ev n) q c pc ls st σ
theorem en_ev_s (n : Nat) {c : en_c} {pc : Nat} {q : en_q} (hq : en_at c pc = some q) (ls : en_l) (st : List en_v) (σ : en_m) : en_ev (n + 1) c pc ls st σ = en_by (en_ev n) q c pc ls st σ := by
  show (match en_at c pc with | none => none | some q => en_by (en_ev n) q c pc ls st σ) = _
  rw [hq]
/-- straight on, so many instructions -/
def en_run : Nat → en_c → Nat → en_l → List en_v → en_m → Option en_x
  | 0, _, pc, ls, st, σ => some (pc, ls, st, σ)
  | n + 1, c, pc, ls, st, σ => match en_at c pc with
    | none => none
    | some q => match en_st q ls st σ with
      | some (pc', ls', st', σ') => en_run n c pc' ls' st' σ'
      | none => none
theorem en_by_st {q : en_q} {ls : en_l} {st : List en_v} {σ : en_m} {x : en_x} (h : en_st q ls st σ = some x) (f : en_f) (c : en_c) (pc : Nat) : en_by f q c pc ls st σ = f c x.1 x.2.1 x.2.2.1 x.2.2.2 := by
  obtain ⟨pc0, i, len, a, b, j, z⟩ := q
  obtain ⟨p', l', s', m'⟩ := x
  have key : en_go f c (en_st (pc0, i, len, a, b, j, z) ls st σ) = f c p' l' s' m' := by rw [h]; rfl
  cases i <;> first
    | exact key
    | cases h
    | skip
  case invokestatic idx =>
    show (bif Nat.ble 100 b then en_go f c (en_st (pc0, .invokestatic idx, len, a, b, j, z) ls st σ) else _) = _
    cases hb : Nat.ble 100 b
    · exfalso
      have hne : ∀ t : Nat, 100 ≤ t → Nat.beq b t = false := by
        intro t ht
        cases e : Nat.beq b t with
        | false => rfl
        | true =>
          rw [Nat.eq_of_beq_eq_true e, Nat.ble_eq_true_of_le ht] at hb
          cases hb
      simp only [en_st, hne 100 (by decide), hne 101 (by decide), hne 102 (by decide)] at h
      cases h
    · exact key
theorem en_s_ret {q : en_q} {ls : en_l} {st : List en_v} {σ : en_m} {x : en_x} (h : en_st q ls st σ = some x) {n : Nat} {c : en_c} {pc : Nat} (hq : en_at c pc = some q) : en_ev (n + 1) c pc ls st σ = en_ev n c x.1 x.2.1 x.2.2.1 x.2.2.2 := by
  rw [en_ev_s n hq]
  exact en_by_st h _ _ _
