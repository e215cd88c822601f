def zi_k (v : Value) (n : Nat) : zm_F := fun ls st h => some (.inl (n, ls, v :: st, h))
def zi_il (i n : Nat) : zm_F := fun ls st h => match ls[i]? with
  | some (.int x) => some (.inl (n, ls, .int x :: st, h))
  | _ => none
def zi_ll (i n : Nat) : zm_F := fun ls st h => match ls[i]? with
  | some (.long x) => some (.inl (n, ls, .long x :: st, h))
  | _ => none
def zi_al (i n : Nat) : zm_F := fun ls st h => match ls[i]? with
  | some (.ref x) => some (.inl (n, ls, .ref x :: st, h))
  | _ => none
def zi_is (i n : Nat) : zm_F := fun ls st h => match st with
  | .int x :: st => some (.inl (n, ls.set i (.int x), st, h))
  | _ => none
def zi_ls (i n : Nat) : zm_F := fun ls st h => match st with
  | .long x :: st => some (.inl (n, (ls.set i (.long x)).set (i + 1) .null, st, h))
  | _ => none
def zi_as (i n : Nat) : zm_F := fun ls st h => match st with
  | .ref x :: st => some (.inl (n, ls.set i (.ref x), st, h))
  | _ => none
def zi_inc (i : Nat) (k : Int32) (n : Nat) : zm_F := fun ls st h => match ls[i]? with
  | some (.int x) => some (.inl (n, ls.set i (.int (x + k)), st, h))
  | _ => none
def zi_bin (op : Int32 → Int32 → Int32) (n : Nat) : zm_F := fun ls st h => match st with
  | .int y :: .int x :: st => some (.inl (n, ls, .int (op x y) :: st, h))
  | _ => none
def zi_div (n : Nat) : zm_F := fun ls st h => match st with
  | .int y :: .int x :: st => if y = 0 then none else some (.inl (n, ls, .int (x / y) :: st, h))
  | _ => none
def zi_rem (n : Nat) : zm_F := fun ls st h => match st with
  | .int y :: .int x :: st => if y = 0 then none else some (.inl (n, ls, .int (x - x / y * y) :: st, h))
  | _ => none
def zi_un (op : Int32 → Int32) (n : Nat) : zm_F := fun ls st h => match st with
  | .int x :: st => some (.inl (n, ls, .int (op x) :: st, h))
  | _ => none
def zi_lbin (op : Int64 → Int64 → Int64) (n : Nat) : zm_F := fun ls st h => match st with
  | .long y :: .long x :: st => some (.inl (n, ls, .long (op x y) :: st, h))
  | _ => none
def zi_ldiv (n : Nat) : zm_F := fun ls st h => match st with
  | .long y :: .long x :: st => if y = 0 then none else some (.inl (n, ls, .long (x / y) :: st, h))
  | _ => none
def zi_lrem (n : Nat) : zm_F := fun ls st h => match st with
  | .long y :: .long x :: st => if y = 0 then none else some (.inl (n, ls, .long (x - x / y * y) :: st, h))
  | _ => none
def zi_i2l (n : Nat) : zm_F := fun ls st h => match st with
  | .int x :: st => some (.inl (n, ls, .long x.toInt64 :: st, h))
  | _ => none
def zi_lcmp (n : Nat) : zm_F := fun ls st h => match st with
  | .long y :: .long x :: st => some (.inl (n, ls, .int (lg_cmp x y) :: st, h))
  | _ => none
def zi_pop (n : Nat) : zm_F := fun ls st h => match st with
  | .int _ :: st => some (.inl (n, ls, st, h))
  | _ => none
def zi_dup (n : Nat) : zm_F := fun ls st h => match st with
  | .ref x :: st => some (.inl (n, ls, .ref x :: .ref x :: st, h))
  | .int x :: st => some (.inl (n, ls, .int x :: .int x :: st, h))
  | _ => none
def zi_dup2 (n : Nat) : zm_F := fun ls st h => match st with
  | .int x :: .ref a :: st => some (.inl (n, ls, .int x :: .ref a :: .int x :: .ref a :: st, h))
  | _ => none
def zi_b1 (c : Int32 → Prop) [DecidablePred c] (t n : Nat) : zm_F := fun ls st h => match st with
  | .int x :: st => some (.inl (if c x then t else n, ls, st, h))
  | _ => none
def zi_b2 (c : Int32 → Int32 → Prop) [∀ x, DecidablePred (c x)] (t n : Nat) : zm_F := fun ls st h => match st with
  | .int y :: .int x :: st => some (.inl (if c x y then t else n, ls, st, h))
  | _ => none
def zi_go (t : Nat) : zm_F := fun ls st h => some (.inl (t, ls, st, h))
def zi_ts (lo hi : Int) (ts : List Nat) (d : Nat) : zm_F := fun ls st h => match st with
  | .int x :: st => if x.toInt < lo ∨ hi < x.toInt then some (.inl (d, ls, st, h)) else some (.inl (ts.getD (x.toInt - lo).toNat 0, ls, st, h))
  | _ => none
def zi_gi (ci k n : Nat) : zm_F := fun ls st h => match st with
  | .ref a :: st => match zm_g h a with
    | .inr (c, fs) => if c = ci then (match fs[k]? with
      | some (.int v) => some (.inl (n, ls, .int v :: st, h))
      | _ => none) else none
    | _ => none
  | _ => none
def zi_gr (ci k n : Nat) : zm_F := fun ls st h => match st with
  | .ref a :: st => match zm_g h a with
    | .inr (c, fs) => if c = ci then (match fs[k]? with
      | some (.ref v) => some (.inl (n, ls, .ref v :: st, h))
      | _ => none) else none
    | _ => none
  | _ => none
def zi_pf (ci k n : Nat) : zm_F := fun ls st h => match st with
  | .int x :: .ref a :: st => match zm_g h a with
    | .inr (c, fs) => if c = ci ∧ k < fs.length then some (.inl (n, ls, st, zm_s h a (.inr (c, fs.set k (.int x))))) else none
    | _ => none
  | _ => none
def zi_pr (ci k n : Nat) : zm_F := fun ls st h => match st with
  | .ref x :: .ref a :: st => match zm_g h a with
    | .inr (c, fs) => if c = ci ∧ k < fs.length then some (.inl (n, ls, st, zm_s h a (.inr (c, fs.set k (.ref x))))) else none
    | _ => none
  | _ => none
def zm_vin (i : Int32) (n : Nat) : Bool := !(decide (i < 0) || decide (n ≤ i.toNatClampNeg))
theorem zm_vin_iff {i : Int32} {n : Nat} : zm_vin i n = true ↔ vp_in i n := by simp [zm_vin, vp_in]
def zi_ald (t n : Nat) : zm_F := fun ls st h => match st with
  | .int i :: .ref a :: st => match zm_g h a with
    | .inl (u, m, .inl f) => if u = t ∧ zm_vin i m = true then some (.inl (n, ls, .int (f i.toNatClampNeg) :: st, h)) else none
    | _ => none
  | _ => none
def zi_ast (t : Nat) (nar : Int32 → Int32) (n : Nat) : zm_F := fun ls st h => match st with
  | .int x :: .int i :: .ref a :: st => match zm_g h a with
    | .inl (u, m, .inl f) => if u = t ∧ zm_vin i m = true then some (.inl (n, ls, st, zm_s h a (.inl (u, m, .inl (upd f i.toNatClampNeg (nar x)))))) else none
    | _ => none
  | _ => none
def zi_qld (t n : Nat) : zm_F := fun ls st h => match st with
  | .int i :: .ref a :: st => match zm_g h a with
    | .inl (u, m, .inr (.inr (.inr (.inr f)))) => if u = t ∧ zm_vin i m = true then (match f i.toNatClampNeg with
      | some b => some (.inl (n, ls, .ref b :: st, h))
      | none => none) else none
    | _ => none
  | _ => none
def zi_qst (t ci n : Nat) : zm_F := fun ls st h => match st with
  | .ref b :: .int i :: .ref a :: st => match zm_g h a, zm_g h b with
    | .inl (u, m, .inr (.inr (.inr (.inr f)))), .inr (c, _) => if u = t ∧ zm_vin i m = true ∧ c = ci then some (.inl (n, ls, st, zm_s h a (.inl (u, m, .inr (.inr (.inr (.inr (va_up f i.toNatClampNeg (some b))))))))) else none
    | _, _ => none
  | _ => none
def zi_len (n : Nat) : zm_F := fun ls st h => match st with
  | .ref a :: st => match zm_g h a with
    | .inl (t, m, .inl _) => if t = 8 then none else some (.inl (n, ls, .int (nI m) :: st, h))
    | .inl (_, m, .inr (.inr (.inr (.inr _)))) => some (.inl (n, ls, .int (nI m) :: st, h))
    | _ => none
  | _ => none
def zm_df : Nat → List Value
  | 0 => [.int 0, .int 0, .int 0]
  | 1 => [.null, .null, .null, .int 0]
  | 2 => [.null, .int 0]
  | 3 => [.null, .int 0, .int 0]
  | 4 => [.null, .int 0, .int 0, .int 0, .int 0, .int 0]
  | 5 => [.null, .null, .int 0, .int 0, .int 0, .int 0]
  | 6 => [.null, .null, .null, .null, .null, .null, .int 0, .null, .null, .int 0, .null, .null, .null, .int 0]
  | _ => [.null, .null, .int 0, .null, .int 0, .int 0, .int 0, .int 0, .int 0, .int 0, .int 0, .int 0, .null, .null, .int 0, .int 0, .int 0, .null, .null, .int 0, .null, .null, .null, .null, .null, .int 0]
def zi_new (ci n : Nat) : zm_F := fun ls st h => if h.1 < 900000 then some (.inl (n, ls, .ref h.1 :: st, zm_n h (zm_df ci).length (.inr (ci, zm_df ci)))) else none
def zi_na (t n : Nat) : zm_F := fun ls st h => match st with
  | .int k :: st => if h.1 < 900000 ∧ ¬ k < 0 ∧ k.toNatClampNeg ≤ 1000 then some (.inl (n, ls, .ref h.1 :: st, zm_n h k.toNatClampNeg (.inl (t, k.toNatClampNeg, .inl (fun _ => 0))))) else none
  | _ => none
def zi_nq (t n : Nat) : zm_F := fun ls st h => match st with
  | .int k :: st => if h.1 < 900000 ∧ ¬ k < 0 ∧ k.toNatClampNeg ≤ 1000 then some (.inl (n, ls, .ref h.1 :: st, zm_n h k.toNatClampNeg (.inl (t, k.toNatClampNeg, .inr (.inr (.inr (.inr (fun _ => none)))))))) else none
  | _ => none
def zm_rows (h : zm_H) (K : Nat) : Nat → zm_H
  | 0 => h
  | n + 1 => zm_n (zm_rows h K n) K (.inl (0, K, .inl (fun _ => 0)))
def zi_nn (n : Nat) : zm_F := fun ls st h => match st with
  | .int k :: .int r :: st => if h.1 < 900000 ∧ ¬ k < 0 ∧ k.toNatClampNeg ≤ 1000 ∧ ¬ r < 0 ∧ r.toNatClampNeg ≤ 1000 then some (.inl (n, ls, .ref h.1 :: st, zm_rows (zm_n h r.toNatClampNeg (.inl (7, r.toNatClampNeg, .inr (.inr (.inr (.inr (fun i => if i < r.toNatClampNeg then some (h.1 + 1 + i) else none))))))) k.toNatClampNeg r.toNatClampNeg)) else none
  | _ => none
def zm_tk : Nat → List Value → Option (List Value × List Value)
  | 0, st => some ([], st)
  | k + 1, v :: st => (zm_tk k st).map (fun q => (v :: q.1, q.2))
  | _ + 1, [] => none
def zm_sm (st : List Value) : Nat := (st.map fun v => v.category).sum
def zi_cs (M k n kd : Nat) : zm_F := fun _ st _ => match zm_tk k st with
  | some (as, rest) => if zm_sm rest ≤ 8 then some (.inr (.inr (M, as.reverse, n, kd, rest))) else none
  | none => none
def zi_cv (M k ci n kd : Nat) : zm_F := fun _ st h => match zm_tk k st with
  | some (as, .ref a :: rest) => match zm_g h a with
    | .inr (c, _) => if c = ci ∧ zm_sm rest ≤ 8 then some (.inr (.inr (M, .ref a :: as.reverse, n, kd, rest))) else none
    | _ => none
  | _ => none
def zi_ci (M k n kd : Nat) : zm_F := fun _ st _ => match zm_tk k st with
  | some (as, .ref a :: rest) => if zm_sm rest ≤ 8 ∧ a < 1000000 then some (.inr (.inr (M, .ref a :: as.reverse, n, kd, rest))) else none
  | _ => none
def zi_cw (M k n kd : Nat) : zm_F := fun _ st _ => match zm_tk k st with
  | some (as, .ref a :: rest) => if 1000002 ≤ a ∧ a < 1000007 ∧ zm_sm rest ≤ 8 then some (.inr (.inr (M, .ref a :: as.reverse, n, kd, rest))) else none
  | _ => none
def zi_oi (n : Nat) : zm_F := fun ls st h => match st with
  | .ref a :: st => if zm_sm st ≤ 8 ∧ a < 1000000 then some (.inl (n, ls, st, h)) else none
  | _ => none
def zi_cpy (n : Nat) : zm_F := fun ls st h => match st with
  | .int k :: .int dp :: .ref b :: .int sp :: .ref a :: st => match zm_g h a, zm_g h b with
    | .inl (0, m, .inl f), .inl (0, m', .inl g) => if ¬ sp < 0 ∧ ¬ dp < 0 ∧ ¬ k < 0 ∧ sp.toNatClampNeg + k.toNatClampNeg ≤ m ∧ dp.toNatClampNeg + k.toNatClampNeg ≤ m' ∧ zm_sm st ≤ 8 then some (.inl (n, ls, st, zm_s h b (.inl (0, m', .inl (va_cpy f g sp.toNatClampNeg dp.toNatClampNeg k.toNatClampNeg))))) else none
    | _, _ => none
  | _ => none
def zi_m2 (op : Int32 → Int32 → Int32) (n : Nat) : zm_F := fun ls st h => match st with
  | .int y :: .int x :: st => if zm_sm st ≤ 8 then some (.inl (n, ls, .int (op x y) :: st, h)) else none
  | _ => none
def zi_m1 (op : Int32 → Int32) (n : Nat) : zm_F := fun ls st h => match st with
  | .int x :: st => if zm_sm st ≤ 8 then some (.inl (n, ls, .int (op x) :: st, h)) else none
  | _ => none
def zi_ri : zm_F := fun _ st _ => match st with
  | [.int x] => some (.inr (.inl (some (.int x))))
  | _ => none
def zi_rz : zm_F := fun _ st _ => match st with
  | [.int x] => if x = 0 ∨ x = 1 then some (.inr (.inl (some (.int x)))) else none
  | _ => none
def zi_rl : zm_F := fun _ st _ => match st with
  | [.long x] => some (.inr (.inl (some (.long x))))
  | _ => none
def zi_rv : zm_F := fun _ st _ => match st with
  | [] => some (.inr (.inl none))
  | _ => none
def zi_rn (t : FieldType) : zm_F := fun _ st _ => match st with
  | [.int x] => if narrow t (.int x) = .int x then some (.inr (.inl (some (.int x)))) else none
  | _ => none
def zm_most (j : Nat) : Int32 := if j = 0 then 3 else if j = 1 then 99 else 40
def zi_tld (n : Nat) : zm_F := fun ls st h => match st with
  | .int i :: .ref a :: st => if a = 1000001 ∧ zm_vin i 3 = true then some (.inl (n, ls, .int (zm_most i.toNatClampNeg) :: st, h)) else none
  | _ => none
def zi_sld (n : Nat) : zm_F := fun ls st h => match st with
  | .int i :: .ref a :: st => match zm_g h 1000000 with
    | .inl (8, L, .inl xs) => if a = 1000000 ∧ zm_vin i L = true then some (.inl (n, ls, .int (xs i.toNatClampNeg) :: st, h)) else none
    | _ => none
  | _ => none
def zi_sln (n : Nat) : zm_F := fun ls st h => match st with
  | .ref a :: st => match zm_g h 1000000 with
    | .inl (8, L, .inl _) => if a = 1000000 then some (.inl (n, ls, .int (nI L) :: st, h)) else none
    | _ => none
  | _ => none
def zm_byt : List (List Int32) := [[112, 111, 119, 100, 101, 114], [112, 97, 99, 107, 101, 100], [119, 101, 116], [105, 99, 101, 100], [100, 97, 121]]
def zi_sv (n : Nat) : zm_F := fun ls st h => match st with
  | .ref a :: st => if 1000002 ≤ a ∧ a < 1000007 then some (.inl (n, ls, .ref (a + 5) :: st, h)) else none
  | _ => none
def zi_sc (n : Nat) : zm_F := fun ls st h => match st with
  | .ref a :: st => if 1000002 ≤ a ∧ a < 1000007 then some (.inl (n, ls, .int 0 :: st, h)) else none
  | _ => none
def zi_vl (n : Nat) : zm_F := fun ls st h => match st with
  | .ref a :: st => if 1000007 ≤ a ∧ a < 1000012 then some (.inl (n, ls, .int (nI (zm_byt.getD (a - 1000007) []).length) :: st, h)) else none
  | _ => none
def zi_vb (n : Nat) : zm_F := fun ls st h => match st with
  | .int i :: .ref a :: st => if 1000007 ≤ a ∧ a < 1000012 ∧ zm_vin i (zm_byt.getD (a - 1000007) []).length = true then some (.inl (n, ls, .int ((zm_byt.getD (a - 1000007) []).getD i.toNatClampNeg 0) :: st, h)) else none
  | _ => none
