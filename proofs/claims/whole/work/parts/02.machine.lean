/-! The abstract machine qm_: values, heap, one step, runs with fuel and depth, the partial function qm_ev and its equations. -/
abbrev qm_AV : Type := Int32 ⊕ Int64 ⊕ (Nat × Nat)
abbrev qm_Hp : Type := (Nat → Nat → Nat → Int32) × (Nat → Nat → Nat → Int64) × (Nat → Nat → Nat → Nat × Nat)
abbrev qm_Ins : Type := Nat × List Nat × Int
abbrev qI (x : Int32) : qm_AV := .inl x
abbrev qL (x : Int64) : qm_AV := .inr (.inl x)
abbrev qP (k i : Nat) : qm_AV := .inr (.inr (k, i))
abbrev qU : qm_AV := .inr (.inr (99, 0))
def zI (s : qm_Hp) (k i j : Nat) : Int32 := s.1 k i j
def zL (s : qm_Hp) (k i j : Nat) : Int64 := s.2.1 k i j
def zP (s : qm_Hp) (k i j : Nat) : Nat × Nat := s.2.2 k i j
def uI (s : qm_Hp) (k i j : Nat) (v : Int32) : qm_Hp := (fun a b c => if a = k ∧ b = i ∧ c = j then v else s.1 a b c, s.2)
def uL (s : qm_Hp) (k i j : Nat) (v : Int64) : qm_Hp := (s.1, fun a b c => if a = k ∧ b = i ∧ c = j then v else s.2.1 a b c, s.2.2)
def uP (s : qm_Hp) (k i j : Nat) (v : Nat × Nat) : qm_Hp := (s.1, s.2.1, fun a b c => if a = k ∧ b = i ∧ c = j then v else s.2.2 a b c)
/-- a copy of n places of int row (k, i) from sp on to row (k', i') from dp on -/
def uC (s : qm_Hp) (k i sp k' i' dp n : Nat) : qm_Hp := (fun a b c => if a = k' ∧ b = i' ∧ dp ≤ c ∧ c < dp + n then s.1 k i (sp + (c - dp)) else s.1 a b c, s.2)
theorem zI_uI (s : qm_Hp) (k i j : Nat) (v : Int32) (a b c : Nat) : zI (uI s k i j v) a b c = if a = k ∧ b = i ∧ c = j then v else zI s a b c := rfl
theorem zI_uL (s : qm_Hp) (k i j : Nat) (v : Int64) (a b c : Nat) : zI (uL s k i j v) a b c = zI s a b c := rfl
theorem zI_uP (s : qm_Hp) (k i j : Nat) (v : Nat × Nat) (a b c : Nat) : zI (uP s k i j v) a b c = zI s a b c := rfl
theorem zI_uC (s : qm_Hp) (k i sp k' i' dp n a b c : Nat) : zI (uC s k i sp k' i' dp n) a b c = if a = k' ∧ b = i' ∧ dp ≤ c ∧ c < dp + n then zI s k i (sp + (c - dp)) else zI s a b c := rfl
theorem zL_uI (s : qm_Hp) (k i j : Nat) (v : Int32) (a b c : Nat) : zL (uI s k i j v) a b c = zL s a b c := rfl
theorem zL_uL (s : qm_Hp) (k i j : Nat) (v : Int64) (a b c : Nat) : zL (uL s k i j v) a b c = if a = k ∧ b = i ∧ c = j then v else zL s a b c := rfl
theorem zL_uP (s : qm_Hp) (k i j : Nat) (v : Nat × Nat) (a b c : Nat) : zL (uP s k i j v) a b c = zL s a b c := rfl
theorem zL_uC (s : qm_Hp) (k i sp k' i' dp n a b c : Nat) : zL (uC s k i sp k' i' dp n) a b c = zL s a b c := rfl
theorem zP_uI (s : qm_Hp) (k i j : Nat) (v : Int32) (a b c : Nat) : zP (uI s k i j v) a b c = zP s a b c := rfl
theorem zP_uL (s : qm_Hp) (k i j : Nat) (v : Int64) (a b c : Nat) : zP (uL s k i j v) a b c = zP s a b c := rfl
theorem zP_uP (s : qm_Hp) (k i j : Nat) (v : Nat × Nat) (a b c : Nat) : zP (uP s k i j v) a b c = if a = k ∧ b = i ∧ c = j then v else zP s a b c := rfl
theorem zP_uC (s : qm_Hp) (k i sp k' i' dp n a b c : Nat) : zP (uC s k i sp k' i' dp n) a b c = zP s a b c := rfl
/-- lengths: of an int row, a long row, a boolean row, a row of references -/
def qm_ilen (s : qm_Hp) (k : Nat) : Nat := match k with
  | 11 => 48 | 12 => 48 | 13 => 48 | 14 => 48 | 15 => 48 | 16 => 48 | 17 => 6
  | 21 => 12 | 22 => 12 | 23 => 12 | 24 => 12 | 25 => 40 | 26 => 4 | 27 => 4 | 28 => 6
  | 31 => 300 | 32 => 20 | 33 => 20 | 34 => 20 | 35 => 5
  | 41 => 17 | 42 => 40 | 43 => 301 | 44 => 301 | 45 => 301 | 47 => 5 | 48 => 5
  | 52 => 300 | 53 => 48 | 54 => 8 | 55 => 8
  | 61 => 3360 | 62 => 2880 | 63 => 300 | 64 => 160 | 65 => 17 | 68 => 48 | 69 => 5 | 70 => 6 | 71 => 5 | 72 => 8 | 73 => 8 | 74 => 48 | 75 => 48
  | 80 => (zI s 82 0 0).toNatClampNeg
  | _ => 0
def qm_llen (k : Nat) : Nat := match k with | 66 => 330 | _ => 0
def qm_blen (k : Nat) : Nat := match k with | 67 => 330 | 76 => 48 | _ => 0
def qm_rlen (k : Nat) : Nat := match k with | 46 => 5 | 51 => 4 | _ => 0
/-- the cells of a row of references: kind, first instance -/
def qm_rel (k : Nat) : Nat × Nat := match k with | 46 => (3, 4) | _ => (4, 0)
/-- the words of the text constant -/
def qm_str : List Nat := "water size kind bark high top beside sunny wind sun rain air week wide tall posts crossed dry thick stand take heat beetle lay min max not and or on ".toList.map Char.toNat
/-- locals -/
def qm_lg : List qm_AV → Nat → qm_AV
  | [], _ => qU
  | v :: _, 0 => v
  | _ :: l, n + 1 => qm_lg l n
def qm_ls : List qm_AV → Nat → qm_AV → List qm_AV
  | [], _, _ => []
  | _ :: l, 0, x => x :: l
  | v :: l, n + 1, x => v :: qm_ls l n x
def qm_isL : qm_AV → Bool
  | .inr (.inl _) => true
  | _ => false
/-- a store of one word at k: a long that began just ahead is gone -/
def qm_s1 (ls : List qm_AV) (k : Nat) (x : qm_AV) : List qm_AV := match k with
  | 0 => qm_ls ls 0 x
  | n + 1 => if qm_isL (qm_lg ls n) = true then qm_ls (qm_ls ls n qU) (n + 1) x else qm_ls ls (n + 1) x
def qm_s2 (ls : List qm_AV) (k : Nat) (x : qm_AV) : List qm_AV := qm_ls (qm_s1 ls k x) (k + 1) qU
def qm_cond (c : Nat) (x y : Int32) : Bool := match c with
  | 0 => decide (x = y)
  | 1 => decide (¬ x = y)
  | 2 => decide (x < y)
  | 3 => decide (y ≤ x)
  | 4 => decide (y < x)
  | _ => decide (x ≤ y)
/-- the block that a switch goes to -/
def qm_sw : List Nat → Int → Int32 → Nat → Nat
  | [], _, _, df => df
  | b :: r, lo, x, df => if x = Int32.ofInt lo then b else qm_sw r (lo + 1) x df
def qm_lk : List Nat → Int32 → Nat → Nat
  | k :: b :: r, x, df => if x = Int32.ofNat k then b else qm_lk r x df
  | _, _, df => df
/-- one instruction: goes on; jumps to a block; calls; returns -/
abbrev qm_Act : Type := (List qm_AV × List qm_AV × qm_Hp) ⊕ (Nat × List qm_AV) ⊕ (Nat × List qm_AV × List qm_AV) ⊕ Option qm_AV
def qa_load (a : List Nat) (t : Nat) (ls st : List qm_AV) (s : qm_Hp) : Option qm_Act := match a with
  | [k] => match t, qm_lg ls k with
    | 0, .inl x => some (.inl (ls, qI x :: st, s))
    | 1, .inr (.inl x) => some (.inl (ls, qL x :: st, s))
    | 2, .inr (.inr (q, i)) => if q = 99 ∨ q = 0 then none else some (.inl (ls, qP q i :: st, s))
    | _, _ => none
  | _ => none
def qa_store (a : List Nat) (t : Nat) (ls st : List qm_AV) (s : qm_Hp) : Option qm_Act := match a with
  | [k] => match t, st with
    | 0, .inl x :: r => if k < ls.length then some (.inl (qm_s1 ls k (qI x), r, s)) else none
    | 1, .inr (.inl x) :: r => if k + 1 < ls.length then some (.inl (qm_s2 ls k (qL x), r, s)) else none
    | 2, .inr (.inr (q, i)) :: r => if q = 0 then none else if k < ls.length then some (.inl (qm_s1 ls k (qP q i), r, s)) else none
    | _, _ => none
  | _ => none
def qa_iinc (a : List Nat) (c : Int) (ls st : List qm_AV) (s : qm_Hp) : Option qm_Act := match a with
  | [k] => match qm_lg ls k with
    | .inl x => if k < ls.length then some (.inl (qm_s1 ls k (qI (x + Int32.ofInt c)), st, s)) else none
    | _ => none
  | _ => none
def qa_bin (f : Int32 → Int32 → Int32) (ls st : List qm_AV) (s : qm_Hp) : Option qm_Act := match st with
  | .inl y :: .inl x :: r => some (.inl (ls, qI (f x y) :: r, s))
  | _ => none
def qa_div (f : Int32 → Int32 → Int32) (ls st : List qm_AV) (s : qm_Hp) : Option qm_Act := match st with
  | .inl y :: .inl x :: r => if y = 0 then none else some (.inl (ls, qI (f x y) :: r, s))
  | _ => none
def qa_neg (ls st : List qm_AV) (s : qm_Hp) : Option qm_Act := match st with
  | .inl x :: r => some (.inl (ls, qI (-x) :: r, s))
  | _ => none
def qa_lbin (f : Int64 → Int64 → Int64) (ls st : List qm_AV) (s : qm_Hp) : Option qm_Act := match st with
  | .inr (.inl y) :: .inr (.inl x) :: r => some (.inl (ls, qL (f x y) :: r, s))
  | _ => none
def qa_ldiv (ls st : List qm_AV) (s : qm_Hp) : Option qm_Act := match st with
  | .inr (.inl y) :: .inr (.inl x) :: r => if y = 0 then none else some (.inl (ls, qL (x / y) :: r, s))
  | _ => none
def qa_lneg (ls st : List qm_AV) (s : qm_Hp) : Option qm_Act := match st with
  | .inr (.inl x) :: r => some (.inl (ls, qL (-x) :: r, s))
  | _ => none
def qa_lshl (ls st : List qm_AV) (s : qm_Hp) : Option qm_Act := match st with
  | .inl y :: .inr (.inl x) :: r => some (.inl (ls, qL (x <<< (y.toInt64 &&& 63)) :: r, s))
  | _ => none

def qa_lcmp (ls st : List qm_AV) (s : qm_Hp) : Option qm_Act := match st with
  | .inr (.inl y) :: .inr (.inl x) :: r => some (.inl (ls, qI (lg_cmp x y) :: r, s))
  | _ => none
def qa_i2l (ls st : List qm_AV) (s : qm_Hp) : Option qm_Act := match st with
  | .inl x :: r => some (.inl (ls, qL x.toInt64 :: r, s))
  | _ => none
def qa_l2i (ls st : List qm_AV) (s : qm_Hp) : Option qm_Act := match st with
  | .inr (.inl x) :: r => some (.inl (ls, qI x.toInt32 :: r, s))
  | _ => none
def qa_dup (ls st : List qm_AV) (s : qm_Hp) : Option qm_Act := match st with
  | v :: r => if qm_isL v = true then none else some (.inl (ls, v :: v :: r, s))
  | _ => none
def qa_dup2 (ls st : List qm_AV) (s : qm_Hp) : Option qm_Act := match st with
  | v :: w :: r => if qm_isL v = true ∨ qm_isL w = true then none else some (.inl (ls, v :: w :: v :: w :: r, s))
  | _ => none
def qa_pop (ls st : List qm_AV) (s : qm_Hp) : Option qm_Act := match st with
  | v :: r => if qm_isL v = true then none else some (.inl (ls, r, s))
  | _ => none
def qa_getI (a : List Nat) (ls st : List qm_AV) (s : qm_Hp) : Option qm_Act := match a, st with
  | [k, f], .inr (.inr (q, i)) :: r => if q = k then some (.inl (ls, qI (zI s q i f) :: r, s)) else none
  | _, _ => none
def qa_getL (a : List Nat) (ls st : List qm_AV) (s : qm_Hp) : Option qm_Act := match a, st with
  | [k, f], .inr (.inr (q, i)) :: r => if q = k then some (.inl (ls, qL (zL s q i f) :: r, s)) else none
  | _, _ => none
def qa_getP (a : List Nat) (ls st : List qm_AV) (s : qm_Hp) : Option qm_Act := match a, st with
  | [k, _, t, mu, ad], .inr (.inr (q, i)) :: r => if q = k then some (.inl (ls, qP t (mu * i + ad) :: r, s)) else none
  | _, _ => none
def qa_getM (a : List Nat) (ls st : List qm_AV) (s : qm_Hp) : Option qm_Act := match a, st with
  | [k, f], .inr (.inr (q, i)) :: r => if q = k then some (.inl (ls, qP (zP s q i f).1 (zP s q i f).2 :: r, s)) else none
  | _, _ => none
def qa_putI (a : List Nat) (ls st : List qm_AV) (s : qm_Hp) : Option qm_Act := match a, st with
  | [k, f], .inl v :: .inr (.inr (q, i)) :: r => if q = k then some (.inl (ls, r, uI s q i f v)) else none
  | _, _ => none
def qa_putZ (a : List Nat) (ls st : List qm_AV) (s : qm_Hp) : Option qm_Act := match a, st with
  | [k, f], .inl v :: .inr (.inr (q, i)) :: r => if q = k ∧ (v = 0 ∨ v = 1) then some (.inl (ls, r, uI s q i f v)) else none
  | _, _ => none
def qa_putL (a : List Nat) (ls st : List qm_AV) (s : qm_Hp) : Option qm_Act := match a, st with
  | [k, f], .inr (.inl v) :: .inr (.inr (q, i)) :: r => if q = k then some (.inl (ls, r, uL s q i f v)) else none
  | _, _ => none
def qa_putM (a : List Nat) (ls st : List qm_AV) (s : qm_Hp) : Option qm_Act := match a, st with
  | [k, f, t], .inr (.inr (q', i')) :: .inr (.inr (q, i)) :: r => if q = k ∧ q' = t then some (.inl (ls, r, uP s q i f (q', i'))) else none
  | _, _ => none
def qa_iald (ls st : List qm_AV) (s : qm_Hp) : Option qm_Act := match st with
  | .inl j :: .inr (.inr (q, i)) :: r => if j < 0 ∨ qm_ilen s q ≤ j.toNatClampNeg then none else some (.inl (ls, qI (zI s q i j.toNatClampNeg) :: r, s))
  | _ => none
def qa_iast (ls st : List qm_AV) (s : qm_Hp) : Option qm_Act := match st with
  | .inl v :: .inl j :: .inr (.inr (q, i)) :: r => if (j < 0 ∨ qm_ilen s q ≤ j.toNatClampNeg) ∨ q = 80 then none else some (.inl (ls, r, uI s q i j.toNatClampNeg v))
  | _ => none
def qa_lald (ls st : List qm_AV) (s : qm_Hp) : Option qm_Act := match st with
  | .inl j :: .inr (.inr (q, i)) :: r => if j < 0 ∨ qm_llen q ≤ j.toNatClampNeg then none else some (.inl (ls, qL (zL s q i j.toNatClampNeg) :: r, s))
  | _ => none
def qa_last (ls st : List qm_AV) (s : qm_Hp) : Option qm_Act := match st with
  | .inr (.inl v) :: .inl j :: .inr (.inr (q, i)) :: r => if j < 0 ∨ qm_llen q ≤ j.toNatClampNeg then none else some (.inl (ls, r, uL s q i j.toNatClampNeg v))
  | _ => none
def qa_bald (ls st : List qm_AV) (s : qm_Hp) : Option qm_Act := match st with
  | .inl j :: .inr (.inr (q, i)) :: r => if j < 0 ∨ qm_blen q ≤ j.toNatClampNeg then none else some (.inl (ls, qI (zI s q i j.toNatClampNeg) :: r, s))
  | _ => none
def qa_bast (ls st : List qm_AV) (s : qm_Hp) : Option qm_Act := match st with
  | .inl v :: .inl j :: .inr (.inr (q, i)) :: r => if (j < 0 ∨ qm_blen q ≤ j.toNatClampNeg) ∨ ¬ (v = 0 ∨ v = 1) then none else some (.inl (ls, r, uI s q i j.toNatClampNeg v))
  | _ => none
def qa_aald (ls st : List qm_AV) (s : qm_Hp) : Option qm_Act := match st with
  | .inl j :: .inr (.inr (q, _)) :: r => if j < 0 ∨ qm_rlen q ≤ j.toNatClampNeg then none else some (.inl (ls, qP (qm_rel q).1 ((qm_rel q).2 + j.toNatClampNeg) :: r, s))
  | _ => none
def qa_alen (ls st : List qm_AV) (s : qm_Hp) : Option qm_Act := match st with
  | .inr (.inr (q, _)) :: r => if q = 35 ∨ q = 42 ∨ q = 54 ∨ q = 55 ∨ q = 80 then some (.inl (ls, qI (Int32.ofNat (qm_ilen s q)) :: r, s)) else none
  | _ => none
def qa_icmp (a : List Nat) (ls st : List qm_AV) (s : qm_Hp) : Option qm_Act := match a, st with
  | [c, b], .inl y :: .inl x :: r => if qm_cond c x y = true then some (.inr (.inl (b, r))) else some (.inl (ls, r, s))
  | _, _ => none
def qa_if (a : List Nat) (ls st : List qm_AV) (s : qm_Hp) : Option qm_Act := match a, st with
  | [c, b], .inl x :: r => if qm_cond c x 0 = true then some (.inr (.inl (b, r))) else some (.inl (ls, r, s))
  | _, _ => none
def qa_null (a : List Nat) (ls st : List qm_AV) (s : qm_Hp) : Option qm_Act := match a, st with
  | [_], .inr (.inr (q, _)) :: r => if q = 0 then none else some (.inl (ls, r, s))
  | _, _ => none
def qa_goto (a : List Nat) (st : List qm_AV) : Option qm_Act := match a with
  | [b] => some (.inr (.inl (b, st)))
  | _ => none
def qa_tsw (a : List Nat) (c : Int) (st : List qm_AV) : Option qm_Act := match a, st with
  | df :: bs, .inl x :: r => some (.inr (.inl (qm_sw bs c x df, r)))
  | _, _ => none
def qa_lsw (a : List Nat) (st : List qm_AV) : Option qm_Act := match a, st with
  | df :: bs, .inl x :: r => some (.inr (.inl (qm_lk bs x df, r)))
  | _, _ => none
def qa_ret (t : Nat) (st : List qm_AV) : Option qm_Act := match t, st with
  | 0, [.inl x] => some (.inr (.inr (.inr (some (qI x)))))
  | 1, [.inr (.inl x)] => some (.inr (.inr (.inr (some (qL x)))))
  | 2, [] => some (.inr (.inr (.inr none)))
  | 3, [.inl x] => if x = 0 ∨ x = 1 then some (.inr (.inr (.inr (some (qI x))))) else none
  | _, _ => none
def qm_wid (st : List qm_AV) : Nat := (st.map fun v => if qm_isL v = true then 2 else 1).sum
/-- the kind of the first argument -/
def qm_rk : List qm_AV → Nat
  | .inr (.inr (q, _)) :: _ => q
  | _ => 0
def qa_call (a : List Nat) (st : List qm_AV) : Option qm_Act := match a with
  | [f, n, k] => if n ≤ st.length ∧ qm_wid (st.drop n) ≤ 8 ∧ (k = 0 ∨ qm_rk (st.take n).reverse = k) then some (.inr (.inr (.inl (f, (st.take n).reverse, st.drop n)))) else none
  | _ => none
def qa_m2 (f : Int32 → Int32 → Int32) (ls st : List qm_AV) (s : qm_Hp) : Option qm_Act := match st with
  | .inl y :: .inl x :: r => if qm_wid r ≤ 8 then some (.inl (ls, qI (f x y) :: r, s)) else none
  | _ => none
def qa_abs (ls st : List qm_AV) (s : qm_Hp) : Option qm_Act := match st with
  | .inl x :: r => if qm_wid r ≤ 8 then some (.inl (ls, qI (if 0 ≤ x then x else 0 - x) :: r, s)) else none
  | _ => none
def qa_lm2 (f : Int64 → Int64 → Int64) (ls st : List qm_AV) (s : qm_Hp) : Option qm_Act := match st with
  | .inr (.inl y) :: .inr (.inl x) :: r => if qm_wid r ≤ 8 then some (.inl (ls, qL (f x y) :: r, s)) else none
  | _ => none
def qa_copy (ls st : List qm_AV) (s : qm_Hp) : Option qm_Act := match st with
  | .inl n :: .inl dp :: .inr (.inr (q', i')) :: .inl sp :: .inr (.inr (q, i)) :: r =>
    if (sp < 0 ∨ dp < 0 ∨ n < 0) ∨ qm_ilen s q < sp.toNatClampNeg + n.toNatClampNeg ∨ qm_ilen s q' < dp.toNatClampNeg + n.toNatClampNeg ∨ q = 80 ∨ q' = 80 ∨ 8 < qm_wid r ∨ qm_ilen s q = 0 ∨ qm_ilen s q' = 0 then none
    else some (.inl (ls, r, uC s q i sp.toNatClampNeg q' i' dp.toNatClampNeg n.toNatClampNeg))
  | _ => none
def qa_slen (ls st : List qm_AV) (s : qm_Hp) : Option qm_Act := match st with
  | .inr (.inr (q, _)) :: r => if q = 81 ∧ qm_wid r ≤ 8 then some (.inl (ls, qI (Int32.ofNat qm_str.length) :: r, s)) else none
  | _ => none
def qa_char (ls st : List qm_AV) (s : qm_Hp) : Option qm_Act := match st with
  | .inl j :: .inr (.inr (q, _)) :: r => if q = 81 ∧ qm_wid r ≤ 8 ∧ ¬ (j < 0 ∨ qm_str.length ≤ j.toNatClampNeg) then some (.inl (ls, qI (Int32.ofNat (qm_str.getD j.toNatClampNeg 0)) :: r, s)) else none
  | _ => none
def qm_act (i : qm_Ins) (ls st : List qm_AV) (s : qm_Hp) : Option qm_Act := match i.1 with
  | 0 => some (.inl (ls, qI (Int32.ofInt i.2.2) :: st, s))
  | 1 => some (.inl (ls, qL (Int64.ofInt i.2.2) :: st, s))
  | 2 => qa_load i.2.1 0 ls st s
  | 3 => qa_load i.2.1 1 ls st s
  | 4 => qa_load i.2.1 2 ls st s
  | 5 => qa_store i.2.1 0 ls st s
  | 6 => qa_store i.2.1 1 ls st s
  | 7 => qa_store i.2.1 2 ls st s
  | 8 => qa_iinc i.2.1 i.2.2 ls st s
  | 10 => qa_bin (fun x y => x + y) ls st s
  | 11 => qa_bin (fun x y => x - y) ls st s
  | 12 => qa_bin (fun x y => x * y) ls st s
  | 13 => qa_div (fun x y => x / y) ls st s
  | 14 => qa_div (fun x y => x - x / y * y) ls st s
  | 15 => qa_neg ls st s
  | 16 => qa_bin (fun x y => x &&& y) ls st s
  | 17 => qa_bin (fun x y => x ||| y) ls st s
  | 18 => qa_bin (fun x y => x <<< (y &&& 31)) ls st s
  | 19 => qa_bin (fun x y => x >>> (y &&& 31)) ls st s
  | 20 => qa_bin (fun x y => (x.toUInt32 >>> (y.toUInt32 &&& Int32.toUInt32 31)).toInt32) ls st s
  | 21 => qa_lbin (fun x y => x + y) ls st s
  | 22 => qa_lbin (fun x y => x - y) ls st s
  | 23 => qa_lbin (fun x y => x * y) ls st s
  | 24 => qa_ldiv ls st s
  | 25 => qa_lneg ls st s
  | 26 => qa_lbin (fun x y => x &&& y) ls st s
  | 27 => qa_lbin (fun x y => x ||| y) ls st s
  | 28 => qa_lshl ls st s
  | 29 => qa_lcmp ls st s
  | 30 => qa_i2l ls st s
  | 31 => qa_l2i ls st s
  | 32 => qa_dup ls st s
  | 33 => qa_dup2 ls st s
  | 34 => qa_pop ls st s
  | 40 => qa_getI i.2.1 ls st s
  | 41 => qa_getL i.2.1 ls st s
  | 42 => qa_getP i.2.1 ls st s
  | 43 => qa_getM i.2.1 ls st s
  | 44 => qa_putI i.2.1 ls st s
  | 45 => qa_putL i.2.1 ls st s
  | 46 => qa_putM i.2.1 ls st s
  | 47 => qa_putZ i.2.1 ls st s
  | 50 => qa_iald ls st s
  | 51 => qa_iast ls st s
  | 52 => qa_lald ls st s
  | 53 => qa_last ls st s
  | 54 => qa_bald ls st s
  | 55 => qa_bast ls st s
  | 56 => qa_aald ls st s
  | 57 => qa_alen ls st s
  | 58 => some (.inl (ls, qP 81 0 :: st, s))
  | 60 => qa_icmp i.2.1 ls st s
  | 61 => qa_if i.2.1 ls st s
  | 62 => qa_null i.2.1 ls st s
  | 63 => qa_goto i.2.1 st
  | 64 => qa_goto i.2.1 st
  | 65 => qa_tsw i.2.1 i.2.2 st
  | 66 => qa_lsw i.2.1 st
  | 70 => qa_ret 0 st
  | 71 => qa_ret 1 st
  | 72 => qa_ret 2 st
  | 73 => qa_ret 3 st
  | 80 => qa_call i.2.1 st
  | 81 => qa_m2 (fun x y => if x < y then y else x) ls st s
  | 82 => qa_m2 (fun x y => if y < x then y else x) ls st s
  | 83 => qa_abs ls st s
  | 84 => qa_lm2 (fun x y => if y < x then x else y) ls st s
  | 85 => qa_lm2 (fun x y => if y < x then y else x) ls st s
  | 86 => qa_copy ls st s
  | 87 => qa_slen ls st s
  | 88 => qa_char ls st s
  | _ => none
/-- a callee's locals -/
def qm_lay : List qm_AV → List qm_AV
  | [] => []
  | .inr (.inl x) :: r => qL x :: qU :: qm_lay r
  | v :: r => v :: qm_lay r
def qm_ent (n : Nat) (as : List qm_AV) : List qm_AV := qm_lay as ++ List.replicate (n - (qm_lay as).length) qU
def qm_push (r : Option qm_AV) (st : List qm_AV) : List qm_AV := match r with
  | none => st
  | some v => v :: st
