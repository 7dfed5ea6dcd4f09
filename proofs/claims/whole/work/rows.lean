section
theorem qm_trivial : True := trivial
end
section
/-! The abstract machine qm_: values, heap, one step, runs with fuel and depth, the partial function qm_ev and its equations. -/
abbrev qm_AV : Type := Int32 ⊕ Int64 ⊕ (Nat × Nat)
abbrev qm_Hp : Type := (Nat → Nat → Nat → Int32) × (Nat → Nat → Nat → Int64) × (Nat → Nat → Nat → Nat × Nat)
abbrev qm_Ins : Type := Nat × List Nat × Int
abbrev qI (x : Int32) : qm_AV := .inl x
abbrev qL (x : Int64) : qm_AV := .inr (.inl x)
abbrev qP (k i : Nat) : qm_AV := .inr (.inr (k, i))
abbrev qU : qm_AV := .inr (.inr (99, 0))
def zI (s : qm_Hp) (k i j : Nat) : Int32 := s.1 k i j
def zL (s : qm_Hp) (k i j : Nat) : Int64 := s.2.1 k i j
def zP (s : qm_Hp) (k i j : Nat) : Nat × Nat := s.2.2 k i j
def uI (s : qm_Hp) (k i j : Nat) (v : Int32) : qm_Hp := (fun a b c => if a = k ∧ b = i ∧ c = j then v else s.1 a b c, s.2)
def uL (s : qm_Hp) (k i j : Nat) (v : Int64) : qm_Hp := (s.1, fun a b c => if a = k ∧ b = i ∧ c = j then v else s.2.1 a b c, s.2.2)
def uP (s : qm_Hp) (k i j : Nat) (v : Nat × Nat) : qm_Hp := (s.1, s.2.1, fun a b c => if a = k ∧ b = i ∧ c = j then v else s.2.2 a b c)
/-- a copy of n places of int row (k, i) from sp on to row (k', i') from dp on -/
def uC (s : qm_Hp) (k i sp k' i' dp n : Nat) : qm_Hp := (fun a b c => if a = k' ∧ b = i' ∧ dp ≤ c ∧ c < dp + n then s.1 k i (sp + (c - dp)) else s.1 a b c, s.2)
theorem zI_uI (s : qm_Hp) (k i j : Nat) (v : Int32) (a b c : Nat) : zI (uI s k i j v) a b c = if a = k ∧ b = i ∧ c = j then v else zI s a b c := rfl
theorem zI_uL (s : qm_Hp) (k i j : Nat) (v : Int64) (a b c : Nat) : zI (uL s k i j v) a b c = zI s a b c := rfl
theorem zI_uP (s : qm_Hp) (k i j : Nat) (v : Nat × Nat) (a b c : Nat) : zI (uP s k i j v) a b c = zI s a b c := rfl
theorem zI_uC (s : qm_Hp) (k i sp k' i' dp n a b c : Nat) : zI (uC s k i sp k' i' dp n) a b c = if a = k' ∧ b = i' ∧ dp ≤ c ∧ c < dp + n then zI s k i (sp + (c - dp)) else zI s a b c := rfl
theorem zL_uI (s : qm_Hp) (k i j : Nat) (v : Int32) (a b c : Nat) : zL (uI s k i j v) a b c = zL s a b c := rfl
theorem zL_uL (s : qm_Hp) (k i j : Nat) (v : Int64) (a b c : Nat) : zL (uL s k i j v) a b c = if a = k ∧ b = i ∧ c = j then v else zL s a b c := rfl
theorem zL_uP (s : qm_Hp) (k i j : Nat) (v : Nat × Nat) (a b c : Nat) : zL (uP s k i j v) a b c = zL s a b c := rfl
theorem zL_uC (s : qm_Hp) (k i sp k' i' dp n a b c : Nat) : zL (uC s k i sp k' i' dp n) a b c = zL s a b c := rfl
theorem zP_uI (s : qm_Hp) (k i j : Nat) (v : Int32) (a b c : Nat) : zP (uI s k i j v) a b c = zP s a b c := rfl
theorem zP_uL (s : qm_Hp) (k i j : Nat) (v : Int64) (a b c : Nat) : zP (uL s k i j v) a b c = zP s a b c := rfl
theorem zP_uP (s : qm_Hp) (k i j : Nat) (v : Nat × Nat) (a b c : Nat) : zP (uP s k i j v) a b c = if a = k ∧ b = i ∧ c = j then v else zP s a b c := rfl
theorem zP_uC (s : qm_Hp) (k i sp k' i' dp n a b c : Nat) : zP (uC s k i sp k' i' dp n) a b c = zP s a b c := rfl
/-- lengths: of an int row, a long row, a boolean row, a row of references -/
def qm_ilen (s : qm_Hp) (k : Nat) : Nat := match k with
  | 11 => 48 | 12 => 48 | 13 => 48 | 14 => 48 | 15 => 48 | 16 => 48 | 17 => 6
  | 21 => 12 | 22 => 12 | 23 => 12 | 24 => 12 | 25 => 40 | 26 => 4 | 27 => 4 | 28 => 6
  | 31 => 300 | 32 => 20 | 33 => 20 | 34 => 20 | 35 => 5
  | 41 => 17 | 42 => 40 | 43 => 301 | 44 => 301 | 45 => 301 | 47 => 5 | 48 => 5
  | 52 => 300 | 53 => 48 | 54 => 8 | 55 => 8
  | 61 => 3360 | 62 => 2880 | 63 => 300 | 64 => 160 | 65 => 17 | 68 => 48 | 69 => 5 | 70 => 6 | 71 => 5 | 72 => 8 | 73 => 8 | 74 => 48 | 75 => 48
  | 80 => (zI s 82 0 0).toNatClampNeg
  | _ => 0
def qm_llen (k : Nat) : Nat := match k with | 66 => 330 | _ => 0
def qm_blen (k : Nat) : Nat := match k with | 67 => 330 | 76 => 48 | _ => 0
def qm_rlen (k : Nat) : Nat := match k with | 46 => 5 | 51 => 4 | _ => 0
/-- the cells of a row of references: kind, first instance -/
def qm_rel (k : Nat) : Nat × Nat := match k with | 46 => (3, 4) | _ => (4, 0)
/-- the words of the text constant -/
def qm_str : List Nat := "water size kind bark high top beside sunny wind sun rain air week wide tall posts crossed dry thick stand take heat beetle lay min max not and or on ".toList.map Char.toNat
/-- locals -/
def qm_lg : List qm_AV → Nat → qm_AV
  | [], _ => qU
  | v :: _, 0 => v
  | _ :: l, n + 1 => qm_lg l n
def qm_ls : List qm_AV → Nat → qm_AV → List qm_AV
  | [], _, _ => []
  | _ :: l, 0, x => x :: l
  | v :: l, n + 1, x => v :: qm_ls l n x
def qm_isL : qm_AV → Bool
  | .inr (.inl _) => true
  | _ => false
/-- a store of one word at k: a long that began just ahead is gone -/
def qm_s1 (ls : List qm_AV) (k : Nat) (x : qm_AV) : List qm_AV := match k with
  | 0 => qm_ls ls 0 x
  | n + 1 => if qm_isL (qm_lg ls n) = true then qm_ls (qm_ls ls n qU) (n + 1) x else qm_ls ls (n + 1) x
def qm_s2 (ls : List qm_AV) (k : Nat) (x : qm_AV) : List qm_AV := qm_ls (qm_s1 ls k x) (k + 1) qU
def qm_cond (c : Nat) (x y : Int32) : Bool := match c with
  | 0 => decide (x = y)
  | 1 => decide (¬ x = y)
  | 2 => decide (x < y)
  | 3 => decide (y ≤ x)
  | 4 => decide (y < x)
  | _ => decide (x ≤ y)
/-- the block that a switch goes to -/
def qm_sw : List Nat → Int → Int32 → Nat → Nat
  | [], _, _, df => df
  | b :: r, lo, x, df => if x = Int32.ofInt lo then b else qm_sw r (lo + 1) x df
def qm_lk : List Nat → Int32 → Nat → Nat
  | k :: b :: r, x, df => if x = Int32.ofNat k then b else qm_lk r x df
  | _, _, df => df
/-- one instruction: goes on; jumps to a block; calls; returns -/
abbrev qm_Act : Type := (List qm_AV × List qm_AV × qm_Hp) ⊕ (Nat × List qm_AV) ⊕ (Nat × List qm_AV × List qm_AV) ⊕ Option qm_AV
def qa_load (a : List Nat) (t : Nat) (ls st : List qm_AV) (s : qm_Hp) : Option qm_Act := match a with
  | [k] => match t, qm_lg ls k with
    | 0, .inl x => some (.inl (ls, qI x :: st, s))
    | 1, .inr (.inl x) => some (.inl (ls, qL x :: st, s))
    | 2, .inr (.inr (q, i)) => if q = 99 then none else some (.inl (ls, qP q i :: st, s))
    | _, _ => none
  | _ => none
def qa_store (a : List Nat) (t : Nat) (ls st : List qm_AV) (s : qm_Hp) : Option qm_Act := match a with
  | [k] => match t, st with
    | 0, .inl x :: r => if k < ls.length then some (.inl (qm_s1 ls k (qI x), r, s)) else none
    | 1, .inr (.inl x) :: r => if k + 1 < ls.length then some (.inl (qm_s2 ls k (qL x), r, s)) else none
    | 2, .inr (.inr (q, i)) :: r => if q = 0 then none else if k < ls.length then some (.inl (qm_s1 ls k (qP q i), r, s)) else none
    | _, _ => none
  | _ => none
def qa_iinc (a : List Nat) (c : Int) (ls st : List qm_AV) (s : qm_Hp) : Option qm_Act := match a with
  | [k] => match qm_lg ls k with
    | .inl x => if k < ls.length then some (.inl (qm_s1 ls k (qI (x + Int32.ofInt c)), st, s)) else none
    | _ => none
  | _ => none
def qa_bin (f : Int32 → Int32 → Int32) (ls st : List qm_AV) (s : qm_Hp) : Option qm_Act := match st with
  | .inl y :: .inl x :: r => some (.inl (ls, qI (f x y) :: r, s))
  | _ => none
def qa_div (f : Int32 → Int32 → Int32) (ls st : List qm_AV) (s : qm_Hp) : Option qm_Act := match st with
  | .inl y :: .inl x :: r => if y = 0 then none else some (.inl (ls, qI (f x y) :: r, s))
  | _ => none
def qa_neg (ls st : List qm_AV) (s : qm_Hp) : Option qm_Act := match st with
  | .inl x :: r => some (.inl (ls, qI (-x) :: r, s))
  | _ => none
def qa_lbin (f : Int64 → Int64 → Int64) (ls st : List qm_AV) (s : qm_Hp) : Option qm_Act := match st with
  | .inr (.inl y) :: .inr (.inl x) :: r => some (.inl (ls, qL (f x y) :: r, s))
  | _ => none
def qa_ldiv (ls st : List qm_AV) (s : qm_Hp) : Option qm_Act := match st with
  | .inr (.inl y) :: .inr (.inl x) :: r => if y = 0 then none else some (.inl (ls, qL (x / y) :: r, s))
  | _ => none
def qa_lneg (ls st : List qm_AV) (s : qm_Hp) : Option qm_Act := match st with
  | .inr (.inl x) :: r => some (.inl (ls, qL (-x) :: r, s))
  | _ => none
def qa_lshl (ls st : List qm_AV) (s : qm_Hp) : Option qm_Act := match st with
  | .inl y :: .inr (.inl x) :: r => some (.inl (ls, qL (x <<< (y.toInt64 &&& 63)) :: r, s))
  | _ => none

def qa_lcmp (ls st : List qm_AV) (s : qm_Hp) : Option qm_Act := match st with
  | .inr (.inl y) :: .inr (.inl x) :: r => some (.inl (ls, qI (lg_cmp x y) :: r, s))
  | _ => none
def qa_i2l (ls st : List qm_AV) (s : qm_Hp) : Option qm_Act := match st with
  | .inl x :: r => some (.inl (ls, qL x.toInt64 :: r, s))
  | _ => none
def qa_l2i (ls st : List qm_AV) (s : qm_Hp) : Option qm_Act := match st with
  | .inr (.inl x) :: r => some (.inl (ls, qI x.toInt32 :: r, s))
  | _ => none
def qa_dup (ls st : List qm_AV) (s : qm_Hp) : Option qm_Act := match st with
  | v :: r => if qm_isL v = true then none else some (.inl (ls, v :: v :: r, s))
  | _ => none
def qa_dup2 (ls st : List qm_AV) (s : qm_Hp) : Option qm_Act := match st with
  | v :: w :: r => if qm_isL v = true ∨ qm_isL w = true then none else some (.inl (ls, v :: w :: v :: w :: r, s))
  | _ => none
def qa_pop (ls st : List qm_AV) (s : qm_Hp) : Option qm_Act := match st with
  | v :: r => if qm_isL v = true then none else some (.inl (ls, r, s))
  | _ => none
def qa_getI (a : List Nat) (ls st : List qm_AV) (s : qm_Hp) : Option qm_Act := match a, st with
  | [k, f], .inr (.inr (q, i)) :: r => if q = k then some (.inl (ls, qI (zI s q i f) :: r, s)) else none
  | _, _ => none
def qa_getL (a : List Nat) (ls st : List qm_AV) (s : qm_Hp) : Option qm_Act := match a, st with
  | [k, f], .inr (.inr (q, i)) :: r => if q = k then some (.inl (ls, qL (zL s q i f) :: r, s)) else none
  | _, _ => none
def qa_getP (a : List Nat) (ls st : List qm_AV) (s : qm_Hp) : Option qm_Act := match a, st with
  | [k, _, t, mu, ad], .inr (.inr (q, i)) :: r => if q = k then some (.inl (ls, qP t (mu * i + ad) :: r, s)) else none
  | _, _ => none
def qa_getM (a : List Nat) (ls st : List qm_AV) (s : qm_Hp) : Option qm_Act := match a, st with
  | [k, f], .inr (.inr (q, i)) :: r => if q = k then some (.inl (ls, qP (zP s q i f).1 (zP s q i f).2 :: r, s)) else none
  | _, _ => none
def qa_putI (a : List Nat) (ls st : List qm_AV) (s : qm_Hp) : Option qm_Act := match a, st with
  | [k, f], .inl v :: .inr (.inr (q, i)) :: r => if q = k then some (.inl (ls, r, uI s q i f v)) else none
  | _, _ => none
def qa_putZ (a : List Nat) (ls st : List qm_AV) (s : qm_Hp) : Option qm_Act := match a, st with
  | [k, f], .inl v :: .inr (.inr (q, i)) :: r => if q = k ∧ (v = 0 ∨ v = 1) then some (.inl (ls, r, uI s q i f v)) else none
  | _, _ => none
def qa_putL (a : List Nat) (ls st : List qm_AV) (s : qm_Hp) : Option qm_Act := match a, st with
  | [k, f], .inr (.inl v) :: .inr (.inr (q, i)) :: r => if q = k then some (.inl (ls, r, uL s q i f v)) else none
  | _, _ => none
def qa_putM (a : List Nat) (ls st : List qm_AV) (s : qm_Hp) : Option qm_Act := match a, st with
  | [k, f, t], .inr (.inr (q', i')) :: .inr (.inr (q, i)) :: r => if q = k ∧ q' = t then some (.inl (ls, r, uP s q i f (q', i'))) else none
  | _, _ => none
def qa_iald (ls st : List qm_AV) (s : qm_Hp) : Option qm_Act := match st with
  | .inl j :: .inr (.inr (q, i)) :: r => if j < 0 ∨ qm_ilen s q ≤ j.toNatClampNeg then none else some (.inl (ls, qI (zI s q i j.toNatClampNeg) :: r, s))
  | _ => none
def qa_iast (ls st : List qm_AV) (s : qm_Hp) : Option qm_Act := match st with
  | .inl v :: .inl j :: .inr (.inr (q, i)) :: r => if (j < 0 ∨ qm_ilen s q ≤ j.toNatClampNeg) ∨ q = 80 then none else some (.inl (ls, r, uI s q i j.toNatClampNeg v))
  | _ => none
def qa_lald (ls st : List qm_AV) (s : qm_Hp) : Option qm_Act := match st with
  | .inl j :: .inr (.inr (q, i)) :: r => if j < 0 ∨ qm_llen q ≤ j.toNatClampNeg then none else some (.inl (ls, qL (zL s q i j.toNatClampNeg) :: r, s))
  | _ => none
def qa_last (ls st : List qm_AV) (s : qm_Hp) : Option qm_Act := match st with
  | .inr (.inl v) :: .inl j :: .inr (.inr (q, i)) :: r => if j < 0 ∨ qm_llen q ≤ j.toNatClampNeg then none else some (.inl (ls, r, uL s q i j.toNatClampNeg v))
  | _ => none
def qa_bald (ls st : List qm_AV) (s : qm_Hp) : Option qm_Act := match st with
  | .inl j :: .inr (.inr (q, i)) :: r => if j < 0 ∨ qm_blen q ≤ j.toNatClampNeg then none else some (.inl (ls, qI (zI s q i j.toNatClampNeg) :: r, s))
  | _ => none
def qa_bast (ls st : List qm_AV) (s : qm_Hp) : Option qm_Act := match st with
  | .inl v :: .inl j :: .inr (.inr (q, i)) :: r => if (j < 0 ∨ qm_blen q ≤ j.toNatClampNeg) ∨ ¬ (v = 0 ∨ v = 1) then none else some (.inl (ls, r, uI s q i j.toNatClampNeg v))
  | _ => none
def qa_aald (ls st : List qm_AV) (s : qm_Hp) : Option qm_Act := match st with
  | .inl j :: .inr (.inr (q, _)) :: r => if j < 0 ∨ qm_rlen q ≤ j.toNatClampNeg then none else some (.inl (ls, qP (qm_rel q).1 ((qm_rel q).2 + j.toNatClampNeg) :: r, s))
  | _ => none
def qa_alen (ls st : List qm_AV) (s : qm_Hp) : Option qm_Act := match st with
  | .inr (.inr (q, _)) :: r => if q = 35 ∨ q = 42 ∨ q = 54 ∨ q = 55 ∨ q = 80 then some (.inl (ls, qI (Int32.ofNat (qm_ilen s q)) :: r, s)) else none
  | _ => none
def qa_icmp (a : List Nat) (ls st : List qm_AV) (s : qm_Hp) : Option qm_Act := match a, st with
  | [c, b], .inl y :: .inl x :: r => if qm_cond c x y = true then some (.inr (.inl (b, r))) else some (.inl (ls, r, s))
  | _, _ => none
def qa_if (a : List Nat) (ls st : List qm_AV) (s : qm_Hp) : Option qm_Act := match a, st with
  | [c, b], .inl x :: r => if qm_cond c x 0 = true then some (.inr (.inl (b, r))) else some (.inl (ls, r, s))
  | _, _ => none
def qa_null (a : List Nat) (ls st : List qm_AV) (s : qm_Hp) : Option qm_Act := match a, st with
  | [b], .inr (.inr (q, _)) :: r => if q = 0 then some (.inr (.inl (b, r))) else some (.inl (ls, r, s))
  | _, _ => none
def qa_goto (a : List Nat) (st : List qm_AV) : Option qm_Act := match a with
  | [b] => some (.inr (.inl (b, st)))
  | _ => none
def qa_tsw (a : List Nat) (c : Int) (st : List qm_AV) : Option qm_Act := match a, st with
  | df :: bs, .inl x :: r => some (.inr (.inl (qm_sw bs c x df, r)))
  | _, _ => none
def qa_lsw (a : List Nat) (st : List qm_AV) : Option qm_Act := match a, st with
  | df :: bs, .inl x :: r => some (.inr (.inl (qm_lk bs x df, r)))
  | _, _ => none
def qa_ret (t : Nat) (st : List qm_AV) : Option qm_Act := match t, st with
  | 0, [.inl x] => some (.inr (.inr (.inr (some (qI x)))))
  | 1, [.inr (.inl x)] => some (.inr (.inr (.inr (some (qL x)))))
  | 2, [] => some (.inr (.inr (.inr none)))
  | _, _ => none
def qm_wid (st : List qm_AV) : Nat := (st.map fun v => if qm_isL v = true then 2 else 1).sum
def qa_call (a : List Nat) (st : List qm_AV) : Option qm_Act := match a with
  | [f, n] => if n ≤ st.length ∧ qm_wid (st.drop n) ≤ 8 then some (.inr (.inr (.inl (f, (st.take n).reverse, st.drop n)))) else none
  | _ => none
def qa_m2 (f : Int32 → Int32 → Int32) (ls st : List qm_AV) (s : qm_Hp) : Option qm_Act := match st with
  | .inl y :: .inl x :: r => if qm_wid r ≤ 8 then some (.inl (ls, qI (f x y) :: r, s)) else none
  | _ => none
def qa_abs (ls st : List qm_AV) (s : qm_Hp) : Option qm_Act := match st with
  | .inl x :: r => if qm_wid r ≤ 8 then some (.inl (ls, qI (if 0 ≤ x then x else 0 - x) :: r, s)) else none
  | _ => none
def qa_lm2 (f : Int64 → Int64 → Int64) (ls st : List qm_AV) (s : qm_Hp) : Option qm_Act := match st with
  | .inr (.inl y) :: .inr (.inl x) :: r => if qm_wid r ≤ 8 then some (.inl (ls, qL (f x y) :: r, s)) else none
  | _ => none
def qa_copy (ls st : List qm_AV) (s : qm_Hp) : Option qm_Act := match st with
  | .inl n :: .inl dp :: .inr (.inr (q', i')) :: .inl sp :: .inr (.inr (q, i)) :: r =>
    if (sp < 0 ∨ dp < 0 ∨ n < 0) ∨ qm_ilen s q < sp.toNatClampNeg + n.toNatClampNeg ∨ qm_ilen s q' < dp.toNatClampNeg + n.toNatClampNeg ∨ q = 80 ∨ q' = 80 ∨ 8 < qm_wid r then none
    else some (.inl (ls, r, uC s q i sp.toNatClampNeg q' i' dp.toNatClampNeg n.toNatClampNeg))
  | _ => none
def qa_slen (ls st : List qm_AV) (s : qm_Hp) : Option qm_Act := match st with
  | .inr (.inr (q, _)) :: r => if q = 81 ∧ qm_wid r ≤ 8 then some (.inl (ls, qI (Int32.ofNat qm_str.length) :: r, s)) else none
  | _ => none
def qa_char (ls st : List qm_AV) (s : qm_Hp) : Option qm_Act := match st with
  | .inl j :: .inr (.inr (q, _)) :: r => if q = 81 ∧ qm_wid r ≤ 8 ∧ ¬ (j < 0 ∨ qm_str.length ≤ j.toNatClampNeg) then some (.inl (ls, qI (Int32.ofNat (qm_str.getD j.toNatClampNeg 0)) :: r, s)) else none
  | _ => none
def qm_act (i : qm_Ins) (ls st : List qm_AV) (s : qm_Hp) : Option qm_Act := match i.1 with
  | 0 => some (.inl (ls, qI (Int32.ofInt i.2.2) :: st, s))
  | 1 => some (.inl (ls, qL (Int64.ofInt i.2.2) :: st, s))
  | 2 => qa_load i.2.1 0 ls st s
  | 3 => qa_load i.2.1 1 ls st s
  | 4 => qa_load i.2.1 2 ls st s
  | 5 => qa_store i.2.1 0 ls st s
  | 6 => qa_store i.2.1 1 ls st s
  | 7 => qa_store i.2.1 2 ls st s
  | 8 => qa_iinc i.2.1 i.2.2 ls st s
  | 10 => qa_bin (fun x y => x + y) ls st s
  | 11 => qa_bin (fun x y => x - y) ls st s
  | 12 => qa_bin (fun x y => x * y) ls st s
  | 13 => qa_div (fun x y => x / y) ls st s
  | 14 => qa_div (fun x y => x - x / y * y) ls st s
  | 15 => qa_neg ls st s
  | 16 => qa_bin (fun x y => x &&& y) ls st s
  | 17 => qa_bin (fun x y => x ||| y) ls st s
  | 18 => qa_bin (fun x y => x <<< (y &&& 31)) ls st s
  | 19 => qa_bin (fun x y => x >>> (y &&& 31)) ls st s
  | 20 => qa_bin (fun x y => (x.toUInt32 >>> (y.toUInt32 &&& Int32.toUInt32 31)).toInt32) ls st s
  | 21 => qa_lbin (fun x y => x + y) ls st s
  | 22 => qa_lbin (fun x y => x - y) ls st s
  | 23 => qa_lbin (fun x y => x * y) ls st s
  | 24 => qa_ldiv ls st s
  | 25 => qa_lneg ls st s
  | 26 => qa_lbin (fun x y => x &&& y) ls st s
  | 27 => qa_lbin (fun x y => x ||| y) ls st s
  | 28 => qa_lshl ls st s
  | 29 => qa_lcmp ls st s
  | 30 => qa_i2l ls st s
  | 31 => qa_l2i ls st s
  | 32 => qa_dup ls st s
  | 33 => qa_dup2 ls st s
  | 34 => qa_pop ls st s
  | 40 => qa_getI i.2.1 ls st s
  | 41 => qa_getL i.2.1 ls st s
  | 42 => qa_getP i.2.1 ls st s
  | 43 => qa_getM i.2.1 ls st s
  | 44 => qa_putI i.2.1 ls st s
  | 45 => qa_putL i.2.1 ls st s
  | 46 => qa_putM i.2.1 ls st s
  | 47 => qa_putZ i.2.1 ls st s
  | 50 => qa_iald ls st s
  | 51 => qa_iast ls st s
  | 52 => qa_lald ls st s
  | 53 => qa_last ls st s
  | 54 => qa_bald ls st s
  | 55 => qa_bast ls st s
  | 56 => qa_aald ls st s
  | 57 => qa_alen ls st s
  | 58 => some (.inl (ls, qP 81 0 :: st, s))
  | 60 => qa_icmp i.2.1 ls st s
  | 61 => qa_if i.2.1 ls st s
  | 62 => qa_null i.2.1 ls st s
  | 63 => qa_goto i.2.1 st
  | 64 => qa_goto i.2.1 st
  | 65 => qa_tsw i.2.1 i.2.2 st
  | 66 => qa_lsw i.2.1 st
  | 70 => qa_ret 0 st
  | 71 => qa_ret 1 st
  | 72 => qa_ret 2 st
  | 80 => qa_call i.2.1 st
  | 81 => qa_m2 (fun x y => if x < y then y else x) ls st s
  | 82 => qa_m2 (fun x y => if y < x then y else x) ls st s
  | 83 => qa_abs ls st s
  | 84 => qa_lm2 (fun x y => if x < y then y else x) ls st s
  | 85 => qa_lm2 (fun x y => if y < x then y else x) ls st s
  | 86 => qa_copy ls st s
  | 87 => qa_slen ls st s
  | 88 => qa_char ls st s
  | _ => none
/-- a callee's locals -/
def qm_lay : List qm_AV → List qm_AV
  | [] => []
  | .inr (.inl x) :: r => qL x :: qU :: qm_lay r
  | v :: r => v :: qm_lay r
def qm_ent (n : Nat) (as : List qm_AV) : List qm_AV := qm_lay as ++ List.replicate (n - (qm_lay as).length) qU
def qm_push (r : Option qm_AV) (st : List qm_AV) : List qm_AV := match r with
  | none => st
  | some v => v :: st
end
section
/-! printed by wip/whole/gen/gen.py: method numbers, blocks -/
abbrev jC_init : Nat := 0
abbrev jC_lay : Nat := 1
abbrev jC_bark : Nat := 2
abbrev jC_measure : Nat := 3
abbrev jC_span : Nat := 4
abbrev jC_weather : Nat := 5
abbrev jC_plan : Nat := 6
abbrev jC_ends : Nat := 7
abbrev jC_feed : Nat := 8
abbrev jC_feedFour : Nat := 9
abbrev jC_end : Nat := 10
abbrev jC_text : Nat := 11
abbrev jC_fault : Nat := 12
abbrev jC_by : Nat := 13
abbrev jC_obey : Nat := 14
abbrev jC_laid : Nat := 15
abbrev jC_layClause : Nat := 16
abbrev jC_of : Nat := 17
abbrev jC_stack : Nat := 18
abbrev jC_week : Nat := 19
abbrev jC_take : Nat := 20
abbrev jC_takeOne : Nat := 21
abbrev jC_order : Nat := 22
abbrev jC_way : Nat := 23
abbrev jC_tryWay : Nat := 24
abbrev jC_bestOf : Nat := 25
abbrev jC_bestInBoth : Nat := 26
abbrev jC_spans : Nat := 27
abbrev jC_sure : Nat := 28
abbrev jC_trySpans : Nat := 29
abbrev jC_lesser : Nat := 30
abbrev jC_greater : Nat := 31
abbrev jC_nextToMeasure : Nat := 32
abbrev jC_small : Nat := 33
abbrev jC_winter : Nat := 34
abbrev jC_listHeats : Nat := 35
abbrev jC_pullGreatest : Nat := 36
abbrev jC_remember : Nat := 37
abbrev jC_missing : Nat := 38
abbrev jC_missingOf : Nat := 39
abbrev jC_falls : Nat := 40
abbrev jC_fallsBy : Nat := 41
abbrev jC_image : Nat := 42
abbrev jC_back : Nat := 43
abbrev jC_about : Nat := 44
abbrev jC_canTry : Nat := 45
abbrev jC_canPass : Nat := 46
abbrev jC_isWeather : Nat := 47
abbrev jC_isText : Nat := 48
abbrev jC_isKind : Nat := 49
abbrev jC_isWater : Nat := 50
abbrev jC_isSpan : Nat := 51
abbrev jC_isDry : Nat := 52
abbrev jC_within : Nat := 53
abbrev jC_placeOf : Nat := 54
abbrev jM_init : Nat := 55
abbrev jM_copy : Nat := 56
abbrev jM_isIn : Nat := 57
abbrev jM_held : Nat := 58
abbrev jM_count : Nat := 59
abbrev jM_at0 : Nat := 60
abbrev jM_isColumn : Nat := 61
abbrev jM_isSplit : Nat := 62
abbrev jM_splits : Nat := 63
abbrev jM_lay : Nat := 64
abbrev jM_put : Nat := 65
abbrev jM_bark : Nat := 66
abbrev jM_isSpan : Nat := 67
abbrev jM_measure : Nat := 68
abbrev jM_span : Nat := 69
abbrev jM_weather : Nat := 70
abbrev jM_isWeather : Nat := 71
abbrev jM_plan : Nat := 72
abbrev jM_ends : Nat := 73
abbrev jM_four : Nat := 74
abbrev jM_feed : Nat := 75
abbrev jM_end : Nat := 76
abbrev jM_byteAt : Nat := 77
abbrev jM_isLetter : Nat := 78
abbrev jM_isDigit : Nat := 79
abbrev jM_nextToken : Nat := 80
abbrev jM_w3 : Nat := 81
abbrev jM_w5 : Nat := 82
abbrev jM_w4 : Nat := 83
abbrev jM_w6 : Nat := 84
abbrev jM_isWord : Nat := 85
abbrev jM_emit : Nat := 86
abbrev jM_push : Nat := 87
abbrev jM_rank : Nat := 88
abbrev jM_settle : Nat := 89
abbrev jM_whole : Nat := 90
abbrev jM_marker : Nat := 91
abbrev jM_isCompared : Nat := 92
abbrev jM_isAskAhead : Nat := 93
abbrev jM_opensBy : Nat := 94
abbrev jM_beginOne : Nat := 95
abbrev jM_compareOf : Nat := 96
abbrev jM_betweenOf : Nat := 97
abbrev jM_behindOne : Nat := 98
abbrev jM_parsed : Nat := 99
abbrev jM_w7 : Nat := 100
abbrev jM_nameOf : Nat := 101
abbrev jM_farName : Nat := 102
abbrev jM_isOf : Nat := 103
abbrev jM_sortOf : Nat := 104
abbrev jM_figure : Nat := 105
abbrev jM_expects : Nat := 106
abbrev jM_laidBy : Nat := 107
abbrev jM_clause : Nat := 108
abbrev jM_readText : Nat := 109
abbrev jM_text : Nat := 110
abbrev jM_fault : Nat := 111
abbrev jM_by : Nat := 112
abbrev jM_laid : Nat := 113
abbrev jM_clip : Nat := 114
abbrev jM_two : Nat := 115
abbrev jM_isAsked : Nat := 116
abbrev jM_work : Nat := 117
abbrev jM_clauses : Nat := 118
abbrev jM_clauseOf : Nat := 119
abbrev jM_sumOf : Nat := 120
abbrev jM_besideOf : Nat := 121
abbrev jM_name : Nat := 122
abbrev jM_thickOf : Nat := 123
abbrev jM_heatOf : Nat := 124
abbrev jM_isDry : Nat := 125
abbrev jM_heightOf : Nat := 126
abbrev jM_leanOf : Nat := 127
abbrev jM_standOf : Nat := 128
abbrev jM_dryMany : Nat := 129
abbrev jM_isBeetle : Nat := 130
abbrev jM_of : Nat := 131
abbrev jM_airIn : Nat := 132
abbrev jM_beetles : Nat := 133
abbrev jM_stack : Nat := 134
abbrev jM_driedOf : Nat := 135
abbrev jM_goBy : Nat := 136
abbrev jM_week : Nat := 137
abbrev jM_takeOff : Nat := 138
abbrev jM_takeOne : Nat := 139
abbrev jM_take : Nat := 140
abbrev jM_tries : Nat := 141
abbrev jM_isTried : Nat := 142
abbrev jM_keepOrder : Nat := 143
abbrev jM_choosesNext : Nat := 144
abbrev jM_findOrder : Nat := 145
abbrev jM_order : Nat := 146
abbrev jM_goOn : Nat := 147
abbrev jM_tryWays : Nat := 148
abbrev jM_bestOf : Nat := 149
abbrev jM_way : Nat := 150
abbrev jM_tryEnds : Nat := 151
abbrev jM_lesser : Nat := 152
abbrev jM_greater : Nat := 153
abbrev jM_spans : Nat := 154
abbrev jM_sure : Nat := 155
abbrev jM_small : Nat := 156
abbrev jM_winter : Nat := 157
abbrev jM_remember : Nat := 158
abbrev jM_missingOf : Nat := 159
abbrev jM_missing : Nat := 160
abbrev jM_falls : Nat := 161
abbrev jM_image : Nat := 162
abbrev jM_back : Nat := 163
abbrev jM_about : Nat := 164
abbrev jL_init : Nat := 165
abbrev jL_thickOf : Nat := 166
abbrev jL_heatOf : Nat := 167
abbrev jL_worthOf : Nat := 168
abbrev jL_standOf : Nat := 169
abbrev jL_heightOf : Nat := 170
abbrev jL_leanOf : Nat := 171
abbrev jL_airIn : Nat := 172
abbrev jL_beetlesIn : Nat := 173
abbrev jL_hasBeetle : Nat := 174
abbrev jL_pass : Nat := 175
abbrev jL_dryAll : Nat := 176
abbrev jL_driedBy : Nat := 177
abbrev jL_look : Nat := 178
abbrev jL_valueOf : Nat := 179
abbrev jL_nameValue : Nat := 180
abbrev jL_joined : Nat := 181
abbrev jL_clamp : Nat := 182
abbrev jP_init : Nat := 183
abbrev jP_become : Nat := 184
abbrev jP_isFallen : Nat := 185
abbrev jP_holds : Nat := 186
abbrev jP_clear : Nat := 187
abbrev jP_add : Nat := 188
abbrev jP_remove : Nat := 189
abbrev jP_bringDown : Nat := 190
abbrev jP_turnBark : Nat := 191
abbrev jP_splits : Nat := 192
abbrev jP_drySplits : Nat := 193
abbrev jP_tallest : Nat := 194
abbrev jP_isTop : Nat := 195
abbrev jP_besideOf : Nat := 196
abbrev jP_isSunny : Nat := 197
abbrev jR_init : Nat := 198
abbrev jR_readAll : Nat := 199
abbrev jR_token : Nat := 200
abbrev jR_number : Nat := 201
abbrev jR_step : Nat := 202
abbrev jR_fail : Nat := 203
abbrev jR_expect : Nat := 204
abbrev jR_emit : Nat := 205
abbrev jR_readClause : Nat := 206
abbrev jR_readLay : Nat := 207
abbrev jR_readTold : Nat := 208
abbrev jR_readPart : Nat := 209
abbrev jR_levelOf : Nat := 210
abbrev jR_readAsk : Nat := 211
abbrev jR_opens : Nat := 212
abbrev jR_readOne : Nat := 213
abbrev jR_readName : Nat := 214
abbrev jR_isNameOfClause : Nat := 215
abbrev jR_readPair : Nat := 216
abbrev jS_init : Nat := 217
abbrev jS_begin : Nat := 218
abbrev jS_tryFrom : Nat := 219
abbrev jS_note : Nat := 220
abbrev jT_init : Nat := 221
abbrev jT_clear : Nat := 222
abbrev jT_begin : Nat := 223
abbrev jT_emit : Nat := 224
abbrev jT_clauseOf : Nat := 225
abbrev jT_codeAt : Nat := 226
abbrev jT_standsOnce : Nat := 227
abbrev jK_init : Nat := 228
abbrev jK_cut : Nat := 229
abbrev jK_add : Nat := 230
abbrev jK_cutWord : Nat := 231
abbrev jK_wordOf : Nat := 232
abbrev jK_cutNumber : Nat := 233
abbrev jK_cutSign : Nat := 234
abbrev jK_signOf : Nat := 235
abbrev jK_isLetter : Nat := 236
abbrev jK_isDigit : Nat := 237
abbrev jY_init : Nat := 238
abbrev jY_become : Nat := 239
abbrev jW_cell : Nat := 240
abbrev jW_law : Nat := 241
def cd_C_lay : List (List qm_Ins) := [
  [(2, [2], 0), (80, [49, 1], 0), (61, [0, 1], 0), (2, [3], 0), (0, [], 1), (0, [], 20), (80, [53, 3], 0), (61, [0, 1], 0), (2, [4], 0), (80, [50, 1], 0), (61, [0, 1], 0), (4, [0], 0), (42, [1, 0, 2, 0, 0], 0), (42, [2, 0, 3, 1, 0], 0), (80, [185, 1], 0), (61, [0, 2], 0), (64, [1], 0)],
  [(0, [], -1), (70, [], 0)],
  [(4, [0], 0), (42, [1, 0, 2, 0, 0], 0), (42, [2, 0, 3, 1, 0], 0), (2, [1], 0), (2, [2], 0), (2, [3], 0), (2, [4], 0), (80, [188, 5], 0), (70, [], 0)]]
def cd_C_bark : List (List qm_Ins) := [
  [(4, [0], 0), (42, [1, 0, 2, 0, 0], 0), (42, [2, 0, 3, 1, 0], 0), (2, [1], 0), (2, [2], 0), (80, [186, 3], 0), (61, [1, 1], 0), (0, [], 0), (70, [], 0)],
  [(4, [0], 0), (42, [1, 0, 2, 0, 0], 0), (42, [2, 0, 3, 1, 0], 0), (42, [3, 4, 14, 1, 0], 0), (2, [1], 0), (2, [2], 0), (80, [54, 2], 0), (2, [3], 0), (61, [0, 2], 0), (0, [], 1), (63, [3], 0)],
  [(0, [], 0), (64, [3], 0)],
  [(51, [], 0), (0, [], 1), (70, [], 0)]]
def cd_C_measure : List (List qm_Ins) := [
  [(4, [0], 0), (42, [1, 0, 2, 0, 0], 0), (42, [2, 0, 3, 1, 0], 0), (2, [1], 0), (2, [2], 0), (80, [186, 3], 0), (61, [0, 1], 0), (2, [3], 0), (0, [], -1), (60, [0, 2], 0), (2, [3], 0), (2, [4], 0), (80, [51, 2], 0), (61, [1, 2], 0), (64, [1], 0)],
  [(0, [], 0), (70, [], 0)],
  [(2, [1], 0), (2, [2], 0), (80, [54, 2], 0), (5, [5], 0), (4, [0], 0), (42, [1, 0, 2, 0, 0], 0), (42, [2, 0, 3, 1, 0], 0), (42, [3, 5, 15, 1, 0], 0), (2, [5], 0), (2, [3], 0), (51, [], 0), (4, [0], 0), (42, [1, 0, 2, 0, 0], 0), (42, [2, 0, 3, 1, 0], 0), (42, [3, 6, 16, 1, 0], 0), (2, [5], 0), (2, [3], 0), (0, [], -1), (60, [1, 3], 0), (0, [], -1), (63, [4], 0)],
  [(2, [4], 0), (64, [4], 0)],
  [(51, [], 0), (0, [], 1), (70, [], 0)]]
def cd_C_span : List (List qm_Ins) := [
  [(2, [1], 0), (80, [49, 1], 0), (61, [0, 1], 0), (2, [2], 0), (2, [3], 0), (80, [51, 2], 0), (61, [1, 2], 0), (64, [1], 0)],
  [(0, [], 0), (70, [], 0)],
  [(4, [0], 0), (42, [1, 0, 2, 0, 0], 0), (42, [2, 7, 26, 1, 0], 0), (2, [1], 0), (2, [2], 0), (51, [], 0), (4, [0], 0), (42, [1, 0, 2, 0, 0], 0), (42, [2, 8, 27, 1, 0], 0), (2, [1], 0), (2, [3], 0), (51, [], 0), (0, [], 1), (70, [], 0)]]
def cd_C_weather : List (List qm_Ins) := [
  [(2, [1], 0), (0, [], 0), (0, [], 9), (80, [53, 3], 0), (61, [0, 1], 0), (2, [2], 0), (0, [], 0), (0, [], 9), (80, [53, 3], 0), (61, [0, 1], 0), (2, [3], 0), (0, [], 0), (0, [], 9), (80, [53, 3], 0), (61, [0, 1], 0), (2, [4], 0), (0, [], 0), (0, [], 40), (80, [53, 3], 0), (61, [0, 1], 0), (0, [], 1), (63, [2], 0)],
  [(0, [], 0), (64, [2], 0)],
  [(5, [5], 0), (2, [5], 0), (61, [0, 3], 0), (4, [0], 0), (42, [1, 0, 2, 0, 0], 0), (40, [2, 5], 0), (0, [], 12), (60, [2, 4], 0), (64, [3], 0)],
  [(0, [], -1), (70, [], 0)],
  [(4, [0], 0), (42, [1, 0, 2, 0, 0], 0), (40, [2, 5], 0), (5, [6], 0), (4, [0], 0), (42, [1, 0, 2, 0, 0], 0), (42, [2, 1, 21, 1, 0], 0), (2, [6], 0), (2, [1], 0), (51, [], 0), (4, [0], 0), (42, [1, 0, 2, 0, 0], 0), (42, [2, 2, 22, 1, 0], 0), (2, [6], 0), (2, [2], 0), (51, [], 0), (4, [0], 0), (42, [1, 0, 2, 0, 0], 0), (42, [2, 3, 23, 1, 0], 0), (2, [6], 0), (2, [3], 0), (51, [], 0), (4, [0], 0), (42, [1, 0, 2, 0, 0], 0), (42, [2, 4, 24, 1, 0], 0), (2, [6], 0), (2, [4], 0), (51, [], 0), (4, [0], 0), (42, [1, 0, 2, 0, 0], 0), (2, [6], 0), (0, [], 1), (10, [], 0), (44, [2, 5], 0), (2, [6], 0), (70, [], 0)]]
def cd_C_plan : List (List qm_Ins) := [
  [(2, [1], 0), (0, [], 0), (0, [], 39), (80, [53, 3], 0), (61, [0, 1], 0), (4, [0], 0), (2, [2], 0), (80, [47, 2], 0), (61, [1, 2], 0), (64, [1], 0)],
  [(0, [], 0), (70, [], 0)],
  [(4, [0], 0), (42, [1, 0, 2, 0, 0], 0), (42, [2, 6, 25, 1, 0], 0), (2, [1], 0), (2, [2], 0), (51, [], 0), (0, [], 1), (70, [], 0)]]
def cd_C_ends : List (List qm_Ins) := [
  [(2, [1], 0), (0, [], 0), (0, [], 9), (80, [53, 3], 0), (61, [0, 1], 0), (2, [3], 0), (0, [], 0), (0, [], 1), (80, [53, 3], 0), (61, [1, 2], 0), (64, [1], 0)],
  [(0, [], 0), (70, [], 0)],
  [(4, [0], 0), (42, [1, 0, 2, 0, 0], 0), (42, [2, 0, 3, 1, 0], 0), (2, [1], 0), (44, [3, 10], 0), (4, [0], 0), (42, [1, 0, 2, 0, 0], 0), (42, [2, 0, 3, 1, 0], 0), (2, [2], 0), (61, [0, 3], 0), (0, [], 1), (63, [4], 0)],
  [(0, [], 0), (64, [4], 0)],
  [(44, [3, 11], 0), (4, [0], 0), (42, [1, 0, 2, 0, 0], 0), (42, [2, 0, 3, 1, 0], 0), (2, [3], 0), (44, [3, 12], 0), (0, [], 1), (70, [], 0)]]
def cd_C_feed : List (List qm_Ins) := [
  [(4, [0], 0), (40, [1, 7], 0), (0, [], 280), (60, [5, 1], 0), (0, [], -1), (70, [], 0)],
  [(4, [0], 0), (2, [1], 0), (80, [9, 2], 0), (4, [0], 0), (2, [2], 0), (80, [9, 2], 0), (4, [0], 0), (2, [3], 0), (80, [9, 2], 0), (4, [0], 0), (2, [4], 0), (80, [9, 2], 0), (4, [0], 0), (2, [5], 0), (80, [9, 2], 0), (4, [0], 0), (40, [1, 7], 0), (70, [], 0)]]
def cd_C_feedFour : List (List qm_Ins) := [
  [(0, [], 24), (5, [2], 0), (64, [1], 0)],
  [(2, [2], 0), (61, [2, 2], 0), (4, [0], 0), (40, [1, 7], 0), (0, [], 300), (60, [3, 2], 0), (4, [0], 0), (42, [1, 6, 52, 0, 0], 0), (4, [0], 0), (40, [1, 7], 0), (2, [1], 0), (2, [2], 0), (20, [], 0), (0, [], 255), (16, [], 0), (51, [], 0), (4, [0], 0), (32, [], 0), (40, [1, 7], 0), (0, [], 1), (10, [], 0), (44, [1, 7], 0), (8, [2], -8), (63, [1], 0)],
  [(72, [], 0)]]
def cd_C_end : List (List qm_Ins) := [
  [(2, [1], 0), (0, [], 0), (4, [0], 0), (40, [1, 7], 0), (80, [53, 3], 0), (61, [1, 1], 0), (0, [], -1), (70, [], 0)],
  [(4, [0], 0), (2, [1], 0), (44, [1, 7], 0), (2, [1], 0), (70, [], 0)]]
def cd_C_text : List (List qm_Ins) := [
  [(4, [0], 0), (42, [1, 0, 2, 0, 0], 0), (40, [2, 11], 0), (5, [1], 0), (2, [1], 0), (0, [], 0), (0, [], 3), (80, [53, 3], 0), (61, [1, 1], 0), (0, [], -1), (70, [], 0)],
  [(4, [0], 0), (42, [1, 5, 6, 0, 0], 0), (4, [0], 0), (42, [1, 6, 52, 0, 0], 0), (4, [0], 0), (40, [1, 7], 0), (4, [0], 0), (42, [1, 2, 51, 0, 0], 0), (2, [1], 0), (56, [], 0), (80, [199, 4], 0), (4, [0], 0), (0, [], 1), (47, [1, 8], 0), (4, [0], 0), (0, [], 0), (44, [1, 7], 0), (4, [0], 0), (42, [1, 5, 6, 0, 0], 0), (40, [6, 4], 0), (61, [0, 2], 0), (0, [], -1), (70, [], 0)],
  [(4, [0], 0), (42, [1, 0, 2, 0, 0], 0), (2, [1], 0), (0, [], 1), (10, [], 0), (44, [2, 11], 0), (2, [1], 0), (70, [], 0)]]
def cd_C_fault : List (List qm_Ins) := [
  [(4, [0], 0), (40, [1, 8], 0), (61, [0, 1], 0), (2, [1], 0), (0, [], 0), (0, [], 1), (80, [53, 3], 0), (61, [1, 2], 0), (64, [1], 0)],
  [(0, [], -1), (70, [], 0)],
  [(2, [1], 0), (61, [1, 3], 0), (4, [0], 0), (42, [1, 5, 6, 0, 0], 0), (40, [6, 4], 0), (63, [4], 0)],
  [(4, [0], 0), (42, [1, 5, 6, 0, 0], 0), (40, [6, 5], 0), (64, [4], 0)],
  [(70, [], 0)]]
def cd_C_by : List (List qm_Ins) := [
  [(2, [1], 0), (0, [], -1), (60, [0, 1], 0), (4, [0], 0), (2, [1], 0), (80, [48, 2], 0), (61, [1, 1], 0), (0, [], 0), (70, [], 0)],
  [(4, [0], 0), (42, [1, 0, 2, 0, 0], 0), (2, [1], 0), (44, [2, 12], 0), (4, [0], 0), (80, [14, 1], 0), (0, [], 1), (70, [], 0)]]
def cd_C_obey : List (List qm_Ins) := [
  [(4, [0], 0), (42, [1, 4, 5, 0, 0], 0), (4, [0], 0), (4, [0], 0), (42, [1, 0, 2, 0, 0], 0), (40, [2, 12], 0), (80, [48, 2], 0), (61, [0, 1], 0), (4, [0], 0), (42, [1, 2, 51, 0, 0], 0), (4, [0], 0), (42, [1, 0, 2, 0, 0], 0), (40, [2, 12], 0), (56, [], 0), (63, [2], 0)],
  [(4, [0], 0), (42, [1, 3, 4, 0, 4], 0), (64, [2], 0)],
  [(46, [5, 0, 4], 0), (72, [], 0)]]
def cd_C_laid : List (List qm_Ins) := [
  [(4, [0], 0), (2, [1], 0), (80, [48, 2], 0), (61, [1, 1], 0), (0, [], -2), (70, [], 0)],
  [(4, [0], 0), (42, [1, 2, 51, 0, 0], 0), (2, [1], 0), (56, [], 0), (7, [2], 0), (4, [0], 0), (42, [1, 0, 2, 0, 0], 0), (42, [2, 0, 3, 1, 0], 0), (80, [187, 1], 0), (0, [], 0), (5, [3], 0), (64, [2], 0)],
  [(2, [3], 0), (4, [2], 0), (40, [4, 6], 0), (60, [3, 4], 0), (4, [2], 0), (42, [4, 1, 32, 1, 0], 0), (2, [3], 0), (50, [], 0), (0, [], 23), (60, [1, 3], 0), (4, [0], 0), (4, [2], 0), (2, [3], 0), (80, [16, 3], 0), (61, [1, 3], 0), (2, [3], 0), (70, [], 0)],
  [(8, [3], 1), (63, [2], 0)],
  [(0, [], -1), (70, [], 0)]]
def cd_C_layClause : List (List qm_Ins) := [
  [(4, [1], 0), (2, [2], 0), (0, [], 0), (80, [226, 3], 0), (5, [3], 0), (4, [1], 0), (2, [2], 0), (0, [], 1), (80, [226, 3], 0), (5, [4], 0), (4, [1], 0), (2, [2], 0), (0, [], 2), (80, [226, 3], 0), (5, [5], 0), (4, [0], 0), (42, [1, 0, 2, 0, 0], 0), (42, [2, 0, 3, 1, 0], 0), (4, [1], 0), (2, [2], 0), (0, [], 3), (80, [226, 3], 0), (2, [3], 0), (2, [4], 0), (2, [5], 0), (80, [188, 5], 0), (0, [], -1), (60, [0, 1], 0), (0, [], 1), (63, [2], 0)],
  [(0, [], 0), (64, [2], 0)],
  [(70, [], 0)]]
def cd_C_of : List (List qm_Ins) := [
  [(4, [0], 0), (42, [1, 0, 2, 0, 0], 0), (42, [2, 0, 3, 1, 0], 0), (7, [4], 0), (4, [4], 0), (2, [1], 0), (2, [2], 0), (80, [186, 3], 0), (61, [1, 1], 0), (0, [], -1), (70, [], 0)],
  [(2, [1], 0), (2, [2], 0), (80, [54, 2], 0), (5, [5], 0), (2, [3], 0), (65, [13, 2, 3, 4, 5, 6, 7, 8, 9, 10], 0)],
  [(4, [4], 0), (42, [3, 1, 11, 1, 0], 0), (2, [5], 0), (50, [], 0), (70, [], 0)],
  [(4, [4], 0), (42, [3, 2, 12, 1, 0], 0), (2, [5], 0), (50, [], 0), (70, [], 0)],
  [(4, [4], 0), (42, [3, 3, 13, 1, 0], 0), (2, [5], 0), (50, [], 0), (70, [], 0)],
  [(4, [4], 0), (42, [3, 4, 14, 1, 0], 0), (2, [5], 0), (50, [], 0), (70, [], 0)],
  [(4, [4], 0), (42, [3, 5, 15, 1, 0], 0), (2, [5], 0), (50, [], 0), (70, [], 0)],
  [(4, [4], 0), (42, [3, 6, 16, 1, 0], 0), (2, [5], 0), (50, [], 0), (70, [], 0)],
  [(4, [0], 0), (42, [1, 4, 5, 0, 0], 0), (4, [4], 0), (2, [1], 0), (2, [2], 0), (80, [166, 4], 0), (70, [], 0)],
  [(4, [0], 0), (42, [1, 4, 5, 0, 0], 0), (4, [4], 0), (2, [1], 0), (2, [2], 0), (80, [167, 4], 0), (70, [], 0)],
  [(4, [4], 0), (42, [3, 3, 13, 1, 0], 0), (2, [5], 0), (50, [], 0), (80, [52, 1], 0), (61, [0, 11], 0), (0, [], 1), (63, [12], 0)],
  [(0, [], 0), (64, [12], 0)],
  [(70, [], 0)],
  [(0, [], -1), (70, [], 0)]]
def cd_C_stack : List (List qm_Ins) := [
  [(4, [0], 0), (42, [1, 0, 2, 0, 0], 0), (42, [2, 0, 3, 1, 0], 0), (7, [2], 0), (2, [1], 0), (0, [], 10), (0, [], 9), (4, [2], 0), (40, [3, 0], 0), (10, [], 0), (80, [53, 3], 0), (61, [0, 1], 0), (4, [0], 0), (42, [1, 4, 5, 0, 0], 0), (4, [2], 0), (2, [1], 0), (0, [], 10), (11, [], 0), (80, [170, 3], 0), (70, [], 0)],
  [(2, [1], 0), (0, [], 20), (0, [], 19), (4, [2], 0), (40, [3, 0], 0), (10, [], 0), (80, [53, 3], 0), (61, [0, 2], 0), (4, [2], 0), (42, [3, 7, 17, 1, 0], 0), (2, [1], 0), (0, [], 20), (11, [], 0), (50, [], 0), (70, [], 0)],
  [(2, [1], 0), (65, [10, 3, 4, 5, 6, 7, 8, 9], 0)],
  [(4, [0], 0), (42, [1, 4, 5, 0, 0], 0), (4, [2], 0), (80, [171, 2], 0), (70, [], 0)],
  [(4, [0], 0), (42, [1, 4, 5, 0, 0], 0), (4, [2], 0), (80, [169, 2], 0), (70, [], 0)],
  [(4, [2], 0), (40, [3, 9], 0), (70, [], 0)],
  [(4, [2], 0), (80, [192, 1], 0), (70, [], 0)],
  [(4, [2], 0), (80, [193, 1], 0), (70, [], 0)],
  [(4, [0], 0), (42, [1, 4, 5, 0, 0], 0), (4, [2], 0), (80, [172, 2], 0), (70, [], 0)],
  [(4, [0], 0), (42, [1, 4, 5, 0, 0], 0), (4, [2], 0), (80, [173, 2], 0), (70, [], 0)],
  [(0, [], -100000), (70, [], 0)]]
def cd_C_week : List (List qm_Ins) := [
  [(4, [0], 0), (2, [1], 0), (80, [47, 2], 0), (61, [0, 1], 0), (4, [0], 0), (42, [1, 0, 2, 0, 0], 0), (42, [2, 0, 3, 1, 0], 0), (40, [3, 8], 0), (0, [], 399), (60, [2, 2], 0), (64, [1], 0)],
  [(0, [], -1), (70, [], 0)],
  [(4, [0], 0), (42, [1, 4, 5, 0, 0], 0), (4, [0], 0), (42, [1, 0, 2, 0, 0], 0), (42, [2, 0, 3, 1, 0], 0), (4, [0], 0), (42, [1, 0, 2, 0, 0], 0), (2, [1], 0), (80, [175, 4], 0), (4, [0], 0), (42, [1, 0, 2, 0, 0], 0), (42, [2, 0, 3, 1, 0], 0), (40, [3, 8], 0), (70, [], 0)]]
def cd_C_take : List (List qm_Ins) := [
  [(2, [1], 0), (0, [], 1), (0, [], 48), (80, [53, 3], 0), (61, [0, 1], 0), (2, [1], 0), (4, [0], 0), (42, [1, 0, 2, 0, 0], 0), (42, [2, 0, 3, 1, 0], 0), (80, [192, 1], 0), (60, [5, 2], 0), (64, [1], 0)],
  [(0, [], -1), (70, [], 0)],
  [(0, [], 0), (5, [2], 0), (0, [], 0), (5, [3], 0), (64, [3], 0)],
  [(2, [3], 0), (2, [1], 0), (60, [3, 4], 0), (2, [2], 0), (4, [0], 0), (80, [21, 1], 0), (10, [], 0), (5, [2], 0), (8, [3], 1), (63, [3], 0)],
  [(2, [2], 0), (70, [], 0)]]
def cd_C_takeOne : List (List qm_Ins) := [
  [(4, [0], 0), (42, [1, 0, 2, 0, 0], 0), (42, [2, 0, 3, 1, 0], 0), (7, [1], 0), (0, [], -1), (5, [2], 0), (0, [], -1), (5, [3], 0), (0, [], 0), (5, [4], 0), (0, [], 0), (5, [5], 0), (64, [1], 0)],
  [(2, [5], 0), (4, [1], 0), (40, [3, 0], 0), (60, [3, 8], 0), (4, [1], 0), (80, [185, 1], 0), (61, [0, 2], 0), (0, [], 0), (63, [3], 0)],
  [(0, [], 0), (4, [1], 0), (42, [3, 7, 17, 1, 0], 0), (2, [5], 0), (50, [], 0), (0, [], 1), (11, [], 0), (81, [], 0), (64, [3], 0)],
  [(5, [6], 0), (2, [6], 0), (5, [7], 0), (64, [4], 0)],
  [(2, [7], 0), (4, [1], 0), (42, [3, 7, 17, 1, 0], 0), (2, [5], 0), (50, [], 0), (60, [3, 7], 0), (4, [0], 0), (42, [1, 4, 5, 0, 0], 0), (4, [1], 0), (2, [5], 0), (2, [7], 0), (80, [168, 4], 0), (5, [8], 0), (2, [2], 0), (0, [], -1), (60, [0, 5], 0), (2, [8], 0), (2, [4], 0), (60, [5, 6], 0), (64, [5], 0)],
  [(2, [8], 0), (5, [4], 0), (2, [5], 0), (5, [2], 0), (2, [7], 0), (5, [3], 0), (64, [6], 0)],
  [(8, [7], 1), (63, [4], 0)],
  [(8, [5], 1), (63, [1], 0)],
  [(4, [1], 0), (2, [2], 0), (2, [3], 0), (80, [186, 3], 0), (61, [1, 9], 0), (0, [], 0), (70, [], 0)],
  [(4, [0], 0), (42, [1, 4, 5, 0, 0], 0), (4, [1], 0), (2, [2], 0), (2, [3], 0), (80, [167, 4], 0), (5, [5], 0), (4, [1], 0), (2, [2], 0), (2, [3], 0), (80, [189, 3], 0), (2, [5], 0), (70, [], 0)]]
def cd_C_order : List (List qm_Ins) := [
  [(2, [2], 0), (61, [0, 1], 0), (2, [2], 0), (0, [], 10), (0, [], 14), (80, [53, 3], 0), (61, [0, 2], 0), (64, [1], 0)],
  [(0, [], 1), (63, [3], 0)],
  [(0, [], 0), (64, [3], 0)],
  [(5, [3], 0), (2, [3], 0), (61, [0, 4], 0), (2, [1], 0), (0, [], 1), (0, [], 5), (80, [53, 3], 0), (61, [0, 4], 0), (4, [0], 0), (2, [1], 0), (80, [46, 2], 0), (61, [1, 5], 0), (64, [4], 0)],
  [(0, [], -1), (70, [], 0)],
  [(4, [0], 0), (42, [1, 11, 8, 0, 0], 0), (4, [0], 0), (42, [1, 0, 2, 0, 0], 0), (42, [2, 0, 3, 1, 0], 0), (80, [218, 2], 0), (4, [0], 0), (42, [1, 11, 8, 0, 0], 0), (0, [], 0), (0, [], 0), (2, [1], 0), (4, [0], 0), (42, [1, 0, 2, 0, 0], 0), (42, [2, 0, 3, 1, 0], 0), (80, [192, 1], 0), (82, [], 0), (4, [0], 0), (42, [1, 0, 2, 0, 0], 0), (4, [0], 0), (42, [1, 4, 5, 0, 0], 0), (80, [219, 6], 0), (2, [2], 0), (61, [1, 6], 0), (4, [0], 0), (42, [1, 11, 8, 0, 0], 0), (40, [8, 3], 0), (70, [], 0)],
  [(2, [2], 0), (0, [], 10), (11, [], 0), (4, [0], 0), (42, [1, 11, 8, 0, 0], 0), (40, [8, 4], 0), (60, [3, 7], 0), (4, [0], 0), (42, [1, 11, 8, 0, 0], 0), (42, [8, 2, 48, 0, 0], 0), (2, [2], 0), (0, [], 10), (11, [], 0), (50, [], 0), (63, [8], 0)],
  [(0, [], -1), (64, [8], 0)],
  [(70, [], 0)]]
def cd_C_way : List (List qm_Ins) := [
  [(2, [2], 0), (0, [], 0), (0, [], 7), (80, [53, 3], 0), (61, [0, 1], 0), (2, [3], 0), (0, [], 0), (0, [], 1), (80, [53, 3], 0), (61, [0, 1], 0), (0, [], 1), (63, [2], 0)],
  [(0, [], 0), (64, [2], 0)],
  [(5, [4], 0), (2, [2], 0), (0, [], -1), (60, [1, 3], 0), (2, [3], 0), (0, [], 0), (0, [], 2), (80, [53, 3], 0), (61, [0, 3], 0), (0, [], 1), (63, [4], 0)],
  [(0, [], 0), (64, [4], 0)],
  [(5, [5], 0), (2, [4], 0), (61, [1, 5], 0), (2, [5], 0), (61, [0, 6], 0), (64, [5], 0)],
  [(2, [1], 0), (0, [], 1), (0, [], 40), (80, [53, 3], 0), (61, [0, 6], 0), (4, [0], 0), (2, [1], 0), (80, [46, 2], 0), (61, [1, 7], 0), (64, [6], 0)],
  [(0, [], -1), (70, [], 0)],
  [(2, [4], 0), (61, [0, 10], 0), (4, [0], 0), (2, [1], 0), (2, [2], 0), (80, [24, 3], 0), (2, [3], 0), (61, [1, 8], 0), (4, [0], 0), (42, [1, 13, 54, 0, 0], 0), (2, [2], 0), (50, [], 0), (63, [9], 0)],
  [(4, [0], 0), (42, [1, 14, 55, 0, 0], 0), (2, [2], 0), (50, [], 0), (64, [9], 0)],
  [(70, [], 0)],
  [(0, [], 0), (5, [6], 0), (64, [11], 0)],
  [(2, [6], 0), (0, [], 8), (60, [3, 12], 0), (4, [0], 0), (2, [1], 0), (2, [6], 0), (80, [24, 3], 0), (8, [6], 1), (63, [11], 0)],
  [(4, [0], 0), (42, [1, 13, 54, 0, 0], 0), (80, [25, 1], 0), (5, [6], 0), (4, [0], 0), (42, [1, 14, 55, 0, 0], 0), (80, [25, 1], 0), (5, [7], 0), (2, [3], 0), (0, [], 2), (60, [1, 13], 0), (4, [0], 0), (4, [0], 0), (42, [1, 13, 54, 0, 0], 0), (2, [6], 0), (50, [], 0), (4, [0], 0), (42, [1, 14, 55, 0, 0], 0), (2, [7], 0), (50, [], 0), (80, [26, 3], 0), (70, [], 0)],
  [(2, [3], 0), (61, [1, 14], 0), (2, [6], 0), (63, [15], 0)],
  [(2, [7], 0), (64, [15], 0)],
  [(70, [], 0)]]
def cd_C_tryWay : List (List qm_Ins) := [
  [(4, [0], 0), (42, [1, 9, 3, 0, 2], 0), (4, [0], 0), (42, [1, 0, 2, 0, 0], 0), (42, [2, 0, 3, 1, 0], 0), (80, [184, 2], 0), (4, [0], 0), (42, [1, 9, 3, 0, 2], 0), (2, [2], 0), (0, [], 2), (14, [], 0), (61, [1, 1], 0), (0, [], 1), (63, [2], 0)],
  [(0, [], 0), (64, [2], 0)],
  [(80, [191, 2], 0), (4, [0], 0), (42, [1, 9, 3, 0, 2], 0), (2, [2], 0), (0, [], 2), (13, [], 0), (0, [], 2), (14, [], 0), (44, [3, 11], 0), (4, [0], 0), (42, [1, 9, 3, 0, 2], 0), (2, [2], 0), (0, [], 4), (13, [], 0), (44, [3, 12], 0), (4, [0], 0), (42, [1, 9, 3, 0, 2], 0), (80, [185, 1], 0), (61, [0, 3], 0), (0, [], 0), (63, [4], 0)],
  [(2, [1], 0), (0, [], 1), (10, [], 0), (64, [4], 0)],
  [(5, [3], 0), (0, [], 0), (5, [4], 0), (64, [5], 0)],
  [(2, [4], 0), (2, [1], 0), (60, [3, 9], 0), (2, [4], 0), (0, [], 40), (60, [3, 9], 0), (4, [0], 0), (42, [1, 9, 3, 0, 2], 0), (80, [185, 1], 0), (61, [1, 6], 0), (0, [], 1), (63, [7], 0)],
  [(0, [], 0), (64, [7], 0)],
  [(5, [5], 0), (4, [0], 0), (42, [1, 4, 5, 0, 0], 0), (4, [0], 0), (42, [1, 9, 3, 0, 2], 0), (4, [0], 0), (42, [1, 0, 2, 0, 0], 0), (4, [0], 0), (42, [1, 0, 2, 0, 0], 0), (42, [2, 6, 25, 1, 0], 0), (2, [4], 0), (50, [], 0), (80, [175, 4], 0), (2, [5], 0), (61, [0, 8], 0), (4, [0], 0), (42, [1, 9, 3, 0, 2], 0), (80, [185, 1], 0), (61, [0, 8], 0), (2, [4], 0), (0, [], 1), (10, [], 0), (5, [3], 0), (64, [8], 0)],
  [(8, [4], 1), (63, [5], 0)],
  [(4, [0], 0), (42, [1, 13, 54, 0, 0], 0), (2, [2], 0), (4, [0], 0), (42, [1, 9, 3, 0, 2], 0), (80, [193, 1], 0), (51, [], 0), (4, [0], 0), (42, [1, 14, 55, 0, 0], 0), (2, [2], 0), (2, [3], 0), (51, [], 0), (72, [], 0)]]
def cd_C_bestOf : List (List qm_Ins) := [
  [(0, [], 0), (5, [1], 0), (0, [], 1), (5, [2], 0), (64, [1], 0)],
  [(2, [2], 0), (4, [0], 0), (57, [], 0), (60, [3, 3], 0), (4, [0], 0), (2, [2], 0), (50, [], 0), (4, [0], 0), (2, [1], 0), (50, [], 0), (60, [5, 2], 0), (2, [2], 0), (5, [1], 0), (64, [2], 0)],
  [(8, [2], 1), (63, [1], 0)],
  [(2, [1], 0), (70, [], 0)]]
def cd_C_bestInBoth : List (List qm_Ins) := [
  [(0, [], 0), (5, [3], 0), (64, [1], 0)],
  [(2, [3], 0), (0, [], 8), (60, [3, 3], 0), (4, [0], 0), (42, [1, 13, 54, 0, 0], 0), (2, [3], 0), (50, [], 0), (2, [1], 0), (60, [1, 2], 0), (4, [0], 0), (42, [1, 14, 55, 0, 0], 0), (2, [3], 0), (50, [], 0), (2, [2], 0), (60, [1, 2], 0), (2, [3], 0), (70, [], 0)],
  [(8, [3], 1), (63, [1], 0)],
  [(0, [], -1), (70, [], 0)]]
def cd_C_spans : List (List qm_Ins) := [
  [(4, [0], 0), (42, [1, 0, 2, 0, 0], 0), (42, [2, 0, 3, 1, 0], 0), (2, [2], 0), (2, [3], 0), (80, [186, 3], 0), (61, [0, 1], 0), (2, [4], 0), (0, [], 0), (0, [], 1), (80, [53, 3], 0), (61, [0, 1], 0), (4, [0], 0), (2, [1], 0), (80, [45, 2], 0), (61, [1, 2], 0), (64, [1], 0)],
  [(0, [], -1), (70, [], 0)],
  [(4, [0], 0), (2, [1], 0), (80, [29, 2], 0), (2, [4], 0), (61, [1, 3], 0), (4, [0], 0), (2, [2], 0), (2, [3], 0), (80, [54, 2], 0), (80, [30, 2], 0), (63, [4], 0)],
  [(4, [0], 0), (2, [2], 0), (2, [3], 0), (80, [54, 2], 0), (80, [31, 2], 0), (64, [4], 0)],
  [(70, [], 0)]]
def cd_C_sure : List (List qm_Ins) := [
  [(2, [2], 0), (0, [], 0), (0, [], 2), (80, [53, 3], 0), (61, [0, 1], 0), (4, [0], 0), (2, [1], 0), (80, [45, 2], 0), (61, [1, 2], 0), (64, [1], 0)],
  [(0, [], -1), (70, [], 0)],
  [(4, [0], 0), (2, [1], 0), (80, [29, 2], 0), (2, [2], 0), (0, [], 2), (60, [1, 3], 0), (4, [0], 0), (80, [32, 1], 0), (70, [], 0)],
  [(0, [], 0), (5, [3], 0), (0, [], 0), (5, [4], 0), (64, [4], 0)],
  [(2, [4], 0), (4, [0], 0), (42, [1, 0, 2, 0, 0], 0), (42, [2, 0, 3, 1, 0], 0), (40, [3, 0], 0), (60, [3, 11], 0), (0, [], 0), (5, [5], 0), (64, [5], 0)],
  [(2, [5], 0), (4, [0], 0), (42, [1, 0, 2, 0, 0], 0), (42, [2, 0, 3, 1, 0], 0), (42, [3, 7, 17, 1, 0], 0), (2, [4], 0), (50, [], 0), (60, [3, 10], 0), (2, [4], 0), (2, [5], 0), (80, [54, 2], 0), (5, [6], 0), (2, [3], 0), (2, [2], 0), (61, [1, 6], 0), (4, [0], 0), (2, [6], 0), (80, [31, 2], 0), (63, [7], 0)],
  [(4, [0], 0), (2, [6], 0), (80, [30, 2], 0), (64, [7], 0)],
  [(80, [52, 1], 0), (61, [0, 8], 0), (0, [], 1), (63, [9], 0)],
  [(0, [], 0), (64, [9], 0)],
  [(10, [], 0), (5, [3], 0), (8, [5], 1), (63, [5], 0)],
  [(8, [4], 1), (63, [4], 0)],
  [(2, [3], 0), (70, [], 0)]]
def cd_C_trySpans : List (List qm_Ins) := [
  [(4, [0], 0), (42, [1, 9, 3, 0, 2], 0), (4, [0], 0), (42, [1, 0, 2, 0, 0], 0), (42, [2, 0, 3, 1, 0], 0), (80, [184, 2], 0), (4, [0], 0), (42, [1, 10, 3, 0, 3], 0), (4, [0], 0), (42, [1, 0, 2, 0, 0], 0), (42, [2, 0, 3, 1, 0], 0), (80, [184, 2], 0), (0, [], 0), (5, [2], 0), (64, [1], 0)],
  [(2, [2], 0), (4, [0], 0), (42, [1, 0, 2, 0, 0], 0), (42, [2, 0, 3, 1, 0], 0), (40, [3, 0], 0), (60, [3, 10], 0), (0, [], 0), (5, [3], 0), (64, [2], 0)],
  [(2, [3], 0), (4, [0], 0), (42, [1, 0, 2, 0, 0], 0), (42, [2, 0, 3, 1, 0], 0), (42, [3, 7, 17, 1, 0], 0), (2, [2], 0), (50, [], 0), (60, [3, 9], 0), (2, [2], 0), (2, [3], 0), (80, [54, 2], 0), (5, [4], 0), (4, [0], 0), (42, [1, 9, 3, 0, 2], 0), (42, [3, 1, 11, 1, 0], 0), (2, [4], 0), (50, [], 0), (5, [5], 0), (4, [0], 0), (42, [1, 9, 3, 0, 2], 0), (42, [3, 5, 15, 1, 0], 0), (2, [4], 0), (50, [], 0), (0, [], -1), (60, [0, 3], 0), (0, [], 1), (63, [4], 0)],
  [(0, [], 0), (64, [4], 0)],
  [(5, [6], 0), (4, [0], 0), (42, [1, 9, 3, 0, 2], 0), (42, [3, 3, 13, 1, 0], 0), (2, [4], 0), (2, [6], 0), (61, [0, 5], 0), (4, [0], 0), (42, [1, 9, 3, 0, 2], 0), (42, [3, 5, 15, 1, 0], 0), (2, [4], 0), (50, [], 0), (63, [6], 0)],
  [(4, [0], 0), (42, [1, 0, 2, 0, 0], 0), (42, [2, 7, 26, 1, 0], 0), (2, [5], 0), (50, [], 0), (64, [6], 0)],
  [(51, [], 0), (4, [0], 0), (42, [1, 10, 3, 0, 3], 0), (42, [3, 3, 13, 1, 0], 0), (2, [4], 0), (2, [6], 0), (61, [0, 7], 0), (4, [0], 0), (42, [1, 9, 3, 0, 2], 0), (42, [3, 6, 16, 1, 0], 0), (2, [4], 0), (50, [], 0), (63, [8], 0)],
  [(4, [0], 0), (42, [1, 0, 2, 0, 0], 0), (42, [2, 8, 27, 1, 0], 0), (2, [5], 0), (50, [], 0), (64, [8], 0)],
  [(51, [], 0), (8, [3], 1), (63, [2], 0)],
  [(8, [2], 1), (63, [1], 0)],
  [(0, [], 0), (5, [2], 0), (64, [11], 0)],
  [(2, [2], 0), (2, [1], 0), (60, [3, 12], 0), (2, [2], 0), (0, [], 40), (60, [3, 12], 0), (4, [0], 0), (42, [1, 4, 5, 0, 0], 0), (4, [0], 0), (42, [1, 9, 3, 0, 2], 0), (4, [0], 0), (42, [1, 0, 2, 0, 0], 0), (4, [0], 0), (42, [1, 0, 2, 0, 0], 0), (42, [2, 6, 25, 1, 0], 0), (2, [2], 0), (50, [], 0), (80, [175, 4], 0), (4, [0], 0), (42, [1, 4, 5, 0, 0], 0), (4, [0], 0), (42, [1, 10, 3, 0, 3], 0), (4, [0], 0), (42, [1, 0, 2, 0, 0], 0), (4, [0], 0), (42, [1, 0, 2, 0, 0], 0), (42, [2, 6, 25, 1, 0], 0), (2, [2], 0), (50, [], 0), (80, [175, 4], 0), (8, [2], 1), (63, [11], 0)],
  [(72, [], 0)]]
def cd_C_lesser : List (List qm_Ins) := [
  [(4, [0], 0), (42, [1, 9, 3, 0, 2], 0), (42, [3, 3, 13, 1, 0], 0), (2, [1], 0), (50, [], 0), (4, [0], 0), (42, [1, 10, 3, 0, 3], 0), (42, [3, 3, 13, 1, 0], 0), (2, [1], 0), (50, [], 0), (82, [], 0), (70, [], 0)]]
def cd_C_greater : List (List qm_Ins) := [
  [(4, [0], 0), (42, [1, 9, 3, 0, 2], 0), (42, [3, 3, 13, 1, 0], 0), (2, [1], 0), (50, [], 0), (4, [0], 0), (42, [1, 10, 3, 0, 3], 0), (42, [3, 3, 13, 1, 0], 0), (2, [1], 0), (50, [], 0), (81, [], 0), (70, [], 0)]]
def cd_C_nextToMeasure : List (List qm_Ins) := [
  [(0, [], 0), (5, [1], 0), (0, [], -1), (5, [2], 0), (0, [], 0), (5, [3], 0), (64, [1], 0)],
  [(2, [3], 0), (4, [0], 0), (42, [1, 0, 2, 0, 0], 0), (42, [2, 0, 3, 1, 0], 0), (40, [3, 0], 0), (60, [3, 5], 0), (0, [], 0), (5, [4], 0), (64, [2], 0)],
  [(2, [4], 0), (4, [0], 0), (42, [1, 0, 2, 0, 0], 0), (42, [2, 0, 3, 1, 0], 0), (42, [3, 7, 17, 1, 0], 0), (2, [3], 0), (50, [], 0), (60, [3, 4], 0), (2, [3], 0), (2, [4], 0), (80, [54, 2], 0), (5, [5], 0), (4, [0], 0), (2, [5], 0), (80, [31, 2], 0), (4, [0], 0), (2, [5], 0), (80, [30, 2], 0), (11, [], 0), (5, [6], 0), (4, [0], 0), (42, [1, 0, 2, 0, 0], 0), (42, [2, 0, 3, 1, 0], 0), (42, [3, 5, 15, 1, 0], 0), (2, [5], 0), (50, [], 0), (0, [], -1), (60, [1, 3], 0), (2, [6], 0), (2, [1], 0), (60, [5, 3], 0), (2, [6], 0), (5, [1], 0), (0, [], 10), (2, [3], 0), (12, [], 0), (2, [4], 0), (10, [], 0), (5, [2], 0), (64, [3], 0)],
  [(8, [4], 1), (63, [2], 0)],
  [(8, [3], 1), (63, [1], 0)],
  [(2, [2], 0), (70, [], 0)]]
def cd_C_small : List (List qm_Ins) := [
  [(2, [1], 0), (80, [49, 1], 0), (61, [0, 1], 0), (2, [2], 0), (80, [50, 1], 0), (61, [0, 1], 0), (4, [0], 0), (2, [3], 0), (80, [45, 2], 0), (61, [1, 2], 0), (64, [1], 0)],
  [(0, [], -1), (70, [], 0)],
  [(0, [], 20), (5, [4], 0), (64, [3], 0)],
  [(2, [4], 0), (0, [], 1), (60, [2, 7], 0), (4, [0], 0), (42, [1, 9, 3, 0, 2], 0), (4, [0], 0), (42, [1, 0, 2, 0, 0], 0), (42, [2, 0, 3, 1, 0], 0), (80, [184, 2], 0), (4, [0], 0), (42, [1, 9, 3, 0, 2], 0), (80, [187, 1], 0), (4, [0], 0), (42, [1, 9, 3, 0, 2], 0), (0, [], 0), (2, [1], 0), (2, [4], 0), (2, [2], 0), (80, [188, 5], 0), (34, [], 0), (0, [], 0), (5, [5], 0), (64, [4], 0)],
  [(2, [5], 0), (2, [3], 0), (60, [3, 5], 0), (2, [5], 0), (0, [], 40), (60, [3, 5], 0), (4, [0], 0), (42, [1, 4, 5, 0, 0], 0), (4, [0], 0), (42, [1, 9, 3, 0, 2], 0), (4, [0], 0), (42, [1, 0, 2, 0, 0], 0), (4, [0], 0), (42, [1, 0, 2, 0, 0], 0), (42, [2, 6, 25, 1, 0], 0), (2, [5], 0), (50, [], 0), (80, [176, 4], 0), (8, [5], 1), (63, [4], 0)],
  [(4, [0], 0), (42, [1, 9, 3, 0, 2], 0), (42, [3, 3, 13, 1, 0], 0), (0, [], 0), (50, [], 0), (80, [52, 1], 0), (61, [0, 6], 0), (2, [4], 0), (70, [], 0)],
  [(8, [4], -1), (63, [3], 0)],
  [(0, [], -1), (70, [], 0)]]
def cd_C_winter : List (List qm_Ins) := [
  [(2, [1], 0), (0, [], 1), (0, [], 999999), (80, [53, 3], 0), (61, [1, 1], 0), (0, [], -1), (70, [], 0)],
  [(4, [0], 0), (80, [35, 1], 0), (5, [2], 0), (0, [], 0), (5, [3], 0), (0, [], 1), (5, [4], 0), (64, [2], 0)],
  [(2, [4], 0), (2, [2], 0), (60, [4, 4], 0), (2, [3], 0), (4, [0], 0), (2, [2], 0), (80, [36, 2], 0), (10, [], 0), (5, [3], 0), (2, [3], 0), (2, [1], 0), (60, [2, 3], 0), (2, [4], 0), (70, [], 0)],
  [(8, [4], 1), (63, [2], 0)],
  [(0, [], -1), (70, [], 0)]]
def cd_C_listHeats : List (List qm_Ins) := [
  [(0, [], 0), (5, [1], 0), (0, [], 0), (5, [2], 0), (64, [1], 0)],
  [(2, [2], 0), (4, [0], 0), (42, [1, 0, 2, 0, 0], 0), (42, [2, 0, 3, 1, 0], 0), (40, [3, 0], 0), (60, [3, 4], 0), (0, [], 0), (5, [3], 0), (64, [2], 0)],
  [(2, [3], 0), (4, [0], 0), (42, [1, 0, 2, 0, 0], 0), (42, [2, 0, 3, 1, 0], 0), (42, [3, 7, 17, 1, 0], 0), (2, [2], 0), (50, [], 0), (60, [3, 3], 0), (2, [1], 0), (0, [], 48), (60, [3, 3], 0), (4, [0], 0), (42, [1, 12, 53, 0, 0], 0), (2, [1], 0), (4, [0], 0), (42, [1, 4, 5, 0, 0], 0), (4, [0], 0), (42, [1, 0, 2, 0, 0], 0), (42, [2, 0, 3, 1, 0], 0), (2, [2], 0), (2, [3], 0), (80, [167, 4], 0), (51, [], 0), (8, [1], 1), (8, [3], 1), (63, [2], 0)],
  [(8, [2], 1), (63, [1], 0)],
  [(2, [1], 0), (70, [], 0)]]
def cd_C_pullGreatest : List (List qm_Ins) := [
  [(0, [], 0), (5, [2], 0), (0, [], 1), (5, [3], 0), (64, [1], 0)],
  [(2, [3], 0), (2, [1], 0), (60, [3, 3], 0), (4, [0], 0), (42, [1, 12, 53, 0, 0], 0), (2, [3], 0), (50, [], 0), (4, [0], 0), (42, [1, 12, 53, 0, 0], 0), (2, [2], 0), (50, [], 0), (60, [5, 2], 0), (2, [3], 0), (5, [2], 0), (64, [2], 0)],
  [(8, [3], 1), (63, [1], 0)],
  [(4, [0], 0), (42, [1, 12, 53, 0, 0], 0), (2, [2], 0), (50, [], 0), (5, [3], 0), (4, [0], 0), (42, [1, 12, 53, 0, 0], 0), (2, [2], 0), (0, [], 0), (51, [], 0), (2, [3], 0), (70, [], 0)]]
def cd_C_remember : List (List qm_Ins) := [
  [(4, [0], 0), (42, [1, 0, 2, 0, 0], 0), (42, [2, 0, 3, 1, 0], 0), (42, [3, 7, 17, 1, 0], 0), (0, [], 0), (4, [0], 0), (42, [1, 0, 2, 0, 0], 0), (42, [2, 9, 28, 1, 0], 0), (0, [], 0), (0, [], 6), (86, [], 0), (4, [0], 0), (42, [1, 0, 2, 0, 0], 0), (0, [], 1), (47, [2, 10], 0), (4, [0], 0), (42, [1, 0, 2, 0, 0], 0), (42, [2, 0, 3, 1, 0], 0), (80, [192, 1], 0), (70, [], 0)]]
def cd_C_missing : List (List qm_Ins) := [
  [(4, [0], 0), (42, [1, 0, 2, 0, 0], 0), (40, [2, 10], 0), (61, [1, 1], 0), (0, [], -1), (70, [], 0)],
  [(2, [2], 0), (61, [1, 2], 0), (2, [1], 0), (0, [], 0), (4, [0], 0), (42, [1, 0, 2, 0, 0], 0), (42, [2, 0, 3, 1, 0], 0), (40, [3, 0], 0), (0, [], 1), (11, [], 0), (80, [53, 3], 0), (61, [0, 2], 0), (4, [0], 0), (2, [1], 0), (80, [39, 2], 0), (70, [], 0)],
  [(2, [1], 0), (0, [], -1), (60, [1, 3], 0), (2, [2], 0), (0, [], 1), (0, [], 48), (80, [53, 3], 0), (61, [1, 4], 0), (64, [3], 0)],
  [(0, [], -1), (70, [], 0)],
  [(0, [], 0), (5, [3], 0), (0, [], 0), (5, [4], 0), (64, [5], 0)],
  [(2, [4], 0), (4, [0], 0), (42, [1, 0, 2, 0, 0], 0), (42, [2, 0, 3, 1, 0], 0), (40, [3, 0], 0), (60, [3, 6], 0), (2, [3], 0), (4, [0], 0), (2, [4], 0), (80, [39, 2], 0), (10, [], 0), (5, [3], 0), (8, [4], 1), (63, [5], 0)],
  [(2, [3], 0), (2, [2], 0), (10, [], 0), (0, [], 1), (11, [], 0), (2, [2], 0), (13, [], 0), (70, [], 0)]]
def cd_C_missingOf : List (List qm_Ins) := [
  [(0, [], 0), (4, [0], 0), (42, [1, 0, 2, 0, 0], 0), (42, [2, 9, 28, 1, 0], 0), (2, [1], 0), (50, [], 0), (4, [0], 0), (42, [1, 0, 2, 0, 0], 0), (42, [2, 0, 3, 1, 0], 0), (42, [3, 7, 17, 1, 0], 0), (2, [1], 0), (50, [], 0), (11, [], 0), (81, [], 0), (70, [], 0)]]
def cd_C_falls : List (List qm_Ins) := [
  [(2, [1], 0), (0, [], 0), (0, [], 9999), (80, [53, 3], 0), (61, [0, 1], 0), (2, [2], 0), (0, [], 1), (0, [], 20), (80, [53, 3], 0), (61, [0, 1], 0), (2, [3], 0), (0, [], 1), (0, [], 40), (80, [53, 3], 0), (61, [0, 1], 0), (0, [], 1), (63, [2], 0)],
  [(0, [], 0), (64, [2], 0)],
  [(5, [4], 0), (2, [4], 0), (61, [0, 3], 0), (2, [1], 0), (2, [2], 0), (10, [], 0), (0, [], 1), (11, [], 0), (0, [], 9999), (60, [4, 3], 0), (4, [0], 0), (2, [3], 0), (80, [46, 2], 0), (61, [1, 4], 0), (64, [3], 0)],
  [(0, [], -1), (70, [], 0)],
  [(0, [], 0), (5, [5], 0), (0, [], 0), (5, [6], 0), (64, [5], 0)],
  [(2, [6], 0), (2, [2], 0), (60, [3, 8], 0), (2, [5], 0), (4, [0], 0), (2, [1], 0), (2, [6], 0), (10, [], 0), (2, [3], 0), (80, [41, 3], 0), (61, [0, 6], 0), (0, [], 1), (63, [7], 0)],
  [(0, [], 0), (64, [7], 0)],
  [(10, [], 0), (5, [5], 0), (8, [6], 1), (63, [5], 0)],
  [(2, [5], 0), (70, [], 0)]]
def cd_C_fallsBy : List (List qm_Ins) := [
  [(4, [0], 0), (42, [1, 9, 3, 0, 2], 0), (4, [0], 0), (42, [1, 0, 2, 0, 0], 0), (42, [2, 0, 3, 1, 0], 0), (80, [184, 2], 0), (2, [1], 0), (0, [], 7), (12, [], 0), (0, [], 4), (10, [], 0), (5, [3], 0), (0, [], 0), (5, [4], 0), (64, [1], 0)],
  [(2, [4], 0), (2, [2], 0), (60, [3, 2], 0), (4, [0], 0), (42, [1, 0, 2, 0, 0], 0), (40, [2, 5], 0), (61, [5, 2], 0), (4, [0], 0), (42, [1, 9, 3, 0, 2], 0), (80, [185, 1], 0), (61, [1, 2], 0), (4, [0], 0), (42, [1, 4, 5, 0, 0], 0), (4, [0], 0), (42, [1, 9, 3, 0, 2], 0), (4, [0], 0), (42, [1, 0, 2, 0, 0], 0), (2, [3], 0), (4, [0], 0), (42, [1, 0, 2, 0, 0], 0), (40, [2, 5], 0), (14, [], 0), (80, [175, 4], 0), (2, [3], 0), (0, [], 163), (12, [], 0), (0, [], 31), (10, [], 0), (0, [], 30097), (14, [], 0), (5, [3], 0), (8, [4], 1), (63, [1], 0)],
  [(4, [0], 0), (42, [1, 9, 3, 0, 2], 0), (80, [185, 1], 0), (70, [], 0)]]
def cd_C_image : List (List qm_Ins) := [
  [(4, [0], 0), (42, [1, 1, 2, 0, 1], 0), (4, [0], 0), (42, [1, 0, 2, 0, 0], 0), (80, [239, 2], 0), (4, [0], 0), (42, [1, 0, 2, 0, 0], 0), (42, [2, 0, 3, 1, 0], 0), (80, [192, 1], 0), (70, [], 0)]]
def cd_C_back : List (List qm_Ins) := [
  [(4, [0], 0), (42, [1, 0, 2, 0, 0], 0), (4, [0], 0), (42, [1, 1, 2, 0, 1], 0), (80, [239, 2], 0), (4, [0], 0), (80, [14, 1], 0), (4, [0], 0), (42, [1, 0, 2, 0, 0], 0), (42, [2, 0, 3, 1, 0], 0), (80, [192, 1], 0), (70, [], 0)]]
def cd_C_about : List (List qm_Ins) := [
  [(2, [1], 0), (0, [], 10), (0, [], 49), (80, [53, 3], 0), (61, [0, 1], 0), (4, [0], 0), (42, [1, 0, 2, 0, 0], 0), (42, [2, 6, 25, 1, 0], 0), (2, [1], 0), (0, [], 10), (11, [], 0), (50, [], 0), (70, [], 0)],
  [(2, [1], 0), (65, [11, 2, 3, 4, 5, 6, 7, 8, 9, 10], 0)],
  [(4, [0], 0), (42, [1, 0, 2, 0, 0], 0), (42, [2, 0, 3, 1, 0], 0), (40, [3, 0], 0), (70, [], 0)],
  [(4, [0], 0), (42, [1, 0, 2, 0, 0], 0), (42, [2, 0, 3, 1, 0], 0), (40, [3, 8], 0), (70, [], 0)],
  [(4, [0], 0), (42, [1, 0, 2, 0, 0], 0), (40, [2, 5], 0), (70, [], 0)],
  [(4, [0], 0), (42, [1, 0, 2, 0, 0], 0), (40, [2, 11], 0), (70, [], 0)],
  [(4, [0], 0), (42, [1, 0, 2, 0, 0], 0), (40, [2, 12], 0), (70, [], 0)],
  [(4, [0], 0), (42, [1, 0, 2, 0, 0], 0), (42, [2, 0, 3, 1, 0], 0), (40, [3, 10], 0), (70, [], 0)],
  [(4, [0], 0), (42, [1, 0, 2, 0, 0], 0), (42, [2, 0, 3, 1, 0], 0), (40, [3, 11], 0), (70, [], 0)],
  [(4, [0], 0), (42, [1, 0, 2, 0, 0], 0), (42, [2, 0, 3, 1, 0], 0), (40, [3, 12], 0), (70, [], 0)],
  [(4, [0], 0), (40, [1, 7], 0), (70, [], 0)],
  [(0, [], -1), (70, [], 0)]]
def cd_C_canTry : List (List qm_Ins) := [
  [(2, [1], 0), (61, [0, 1], 0), (2, [1], 0), (0, [], 1), (0, [], 40), (80, [53, 3], 0), (61, [0, 2], 0), (4, [0], 0), (2, [1], 0), (80, [46, 2], 0), (61, [0, 2], 0), (64, [1], 0)],
  [(0, [], 1), (63, [3], 0)],
  [(0, [], 0), (64, [3], 0)],
  [(70, [], 0)]]
def cd_C_canPass : List (List qm_Ins) := [
  [(4, [0], 0), (42, [1, 0, 2, 0, 0], 0), (40, [2, 5], 0), (61, [5, 1], 0), (4, [0], 0), (42, [1, 0, 2, 0, 0], 0), (42, [2, 0, 3, 1, 0], 0), (40, [3, 8], 0), (2, [1], 0), (10, [], 0), (0, [], 399), (60, [4, 1], 0), (0, [], 1), (63, [2], 0)],
  [(0, [], 0), (64, [2], 0)],
  [(70, [], 0)]]
def cd_C_isWeather : List (List qm_Ins) := [
  [(2, [1], 0), (0, [], 0), (4, [0], 0), (42, [1, 0, 2, 0, 0], 0), (40, [2, 5], 0), (0, [], 1), (11, [], 0), (80, [53, 3], 0), (70, [], 0)]]
def cd_C_isText : List (List qm_Ins) := [
  [(2, [1], 0), (0, [], 0), (4, [0], 0), (42, [1, 0, 2, 0, 0], 0), (40, [2, 11], 0), (0, [], 1), (11, [], 0), (80, [53, 3], 0), (70, [], 0)]]
def cd_C_isKind : List (List qm_Ins) := [
  [(2, [0], 0), (0, [], 0), (0, [], 3), (80, [53, 3], 0), (70, [], 0)]]
def cd_C_isWater : List (List qm_Ins) := [
  [(2, [0], 0), (0, [], 0), (0, [], 2000), (80, [53, 3], 0), (70, [], 0)]]
def cd_C_isSpan : List (List qm_Ins) := [
  [(2, [0], 0), (80, [50, 1], 0), (61, [0, 1], 0), (2, [1], 0), (80, [50, 1], 0), (61, [0, 1], 0), (2, [0], 0), (2, [1], 0), (60, [4, 1], 0), (0, [], 1), (63, [2], 0)],
  [(0, [], 0), (64, [2], 0)],
  [(70, [], 0)]]
def cd_C_isDry : List (List qm_Ins) := [
  [(2, [0], 0), (0, [], 200), (60, [4, 1], 0), (0, [], 1), (63, [2], 0)],
  [(0, [], 0), (64, [2], 0)],
  [(70, [], 0)]]
def cd_C_within : List (List qm_Ins) := [
  [(2, [0], 0), (2, [1], 0), (60, [2, 1], 0), (2, [0], 0), (2, [2], 0), (60, [4, 1], 0), (0, [], 1), (63, [2], 0)],
  [(0, [], 0), (64, [2], 0)],
  [(70, [], 0)]]
def cd_C_placeOf : List (List qm_Ins) := [
  [(2, [0], 0), (0, [], 8), (12, [], 0), (2, [1], 0), (10, [], 0), (70, [], 0)]]
def cd_M_copy : List (List qm_Ins) := [
  [(0, [], 0), (5, [3], 0), (64, [1], 0)],
  [(2, [3], 0), (0, [], 420), (60, [3, 2], 0), (4, [0], 0), (42, [9, 0, 61, 0, 0], 0), (0, [], 420), (2, [2], 0), (12, [], 0), (2, [3], 0), (10, [], 0), (4, [0], 0), (42, [9, 0, 61, 0, 0], 0), (0, [], 420), (2, [1], 0), (12, [], 0), (2, [3], 0), (10, [], 0), (50, [], 0), (51, [], 0), (8, [3], 1), (63, [1], 0)],
  [(72, [], 0)]]
def cd_M_isIn : List (List qm_Ins) := [
  [(2, [0], 0), (2, [1], 0), (60, [2, 1], 0), (2, [0], 0), (2, [2], 0), (60, [4, 1], 0), (0, [], 1), (63, [2], 0)],
  [(0, [], 0), (64, [2], 0)],
  [(70, [], 0)]]
def cd_M_held : List (List qm_Ins) := [
  [(3, [0], 0), (2, [2], 0), (30, [], 0), (29, [], 0), (61, [3, 1], 0), (2, [2], 0), (63, [3], 0)],
  [(3, [0], 0), (2, [3], 0), (30, [], 0), (29, [], 0), (61, [5, 2], 0), (2, [3], 0), (63, [3], 0)],
  [(3, [0], 0), (31, [], 0), (64, [3], 0)],
  [(70, [], 0)]]
def cd_M_count : List (List qm_Ins) := [
  [(4, [0], 0), (42, [9, 0, 61, 0, 0], 0), (4, [0], 0), (40, [9, 2], 0), (0, [], 120), (10, [], 0), (2, [1], 0), (10, [], 0), (50, [], 0), (70, [], 0)]]
def cd_M_at0 : List (List qm_Ins) := [
  [(4, [0], 0), (40, [9, 2], 0), (0, [], 130), (10, [], 0), (0, [], 6), (0, [], 8), (2, [1], 0), (12, [], 0), (2, [2], 0), (10, [], 0), (12, [], 0), (10, [], 0), (70, [], 0)]]
def cd_M_isColumn : List (List qm_Ins) := [
  [(2, [1], 0), (0, [], 0), (4, [0], 0), (40, [9, 1], 0), (0, [], 1), (11, [], 0), (80, [57, 3], 0), (70, [], 0)]]
def cd_M_isSplit : List (List qm_Ins) := [
  [(4, [0], 0), (2, [1], 0), (80, [61, 2], 0), (61, [0, 1], 0), (2, [2], 0), (0, [], 0), (4, [0], 0), (2, [1], 0), (80, [59, 2], 0), (0, [], 1), (11, [], 0), (80, [57, 3], 0), (61, [0, 1], 0), (0, [], 1), (63, [2], 0)],
  [(0, [], 0), (64, [2], 0)],
  [(70, [], 0)]]
def cd_M_splits : List (List qm_Ins) := [
  [(0, [], 0), (5, [1], 0), (0, [], 0), (5, [2], 0), (64, [1], 0)],
  [(2, [2], 0), (4, [0], 0), (40, [9, 1], 0), (60, [3, 2], 0), (2, [1], 0), (4, [0], 0), (2, [2], 0), (80, [59, 2], 0), (10, [], 0), (5, [1], 0), (8, [2], 1), (63, [1], 0)],
  [(2, [1], 0), (70, [], 0)]]
def cd_M_lay : List (List qm_Ins) := [
  [(4, [0], 0), (2, [1], 0), (80, [61, 2], 0), (61, [0, 1], 0), (2, [2], 0), (0, [], 0), (0, [], 3), (80, [57, 3], 0), (61, [0, 1], 0), (2, [3], 0), (0, [], 1), (0, [], 20), (80, [57, 3], 0), (61, [0, 1], 0), (2, [4], 0), (0, [], 0), (0, [], 2000), (80, [57, 3], 0), (61, [0, 1], 0), (4, [0], 0), (2, [1], 0), (80, [59, 2], 0), (0, [], 8), (60, [0, 1], 0), (4, [0], 0), (42, [9, 0, 61, 0, 0], 0), (0, [], 7), (50, [], 0), (61, [2, 2], 0), (64, [1], 0)],
  [(0, [], -1), (70, [], 0)],
  [(4, [0], 0), (2, [1], 0), (2, [2], 0), (2, [3], 0), (2, [4], 0), (80, [65, 5], 0), (4, [0], 0), (2, [1], 0), (80, [59, 2], 0), (0, [], 1), (11, [], 0), (70, [], 0)]]
def cd_M_put : List (List qm_Ins) := [
  [(4, [0], 0), (2, [1], 0), (4, [0], 0), (2, [1], 0), (80, [59, 2], 0), (80, [60, 3], 0), (5, [5], 0), (4, [0], 0), (42, [9, 0, 61, 0, 0], 0), (2, [5], 0), (2, [2], 0), (51, [], 0), (4, [0], 0), (42, [9, 0, 61, 0, 0], 0), (2, [5], 0), (0, [], 1), (10, [], 0), (2, [3], 0), (51, [], 0), (4, [0], 0), (42, [9, 0, 61, 0, 0], 0), (2, [5], 0), (0, [], 2), (10, [], 0), (2, [4], 0), (51, [], 0), (4, [0], 0), (42, [9, 0, 61, 0, 0], 0), (2, [5], 0), (0, [], 3), (10, [], 0), (0, [], 1), (51, [], 0), (4, [0], 0), (42, [9, 0, 61, 0, 0], 0), (2, [5], 0), (0, [], 4), (10, [], 0), (0, [], -1), (51, [], 0), (4, [0], 0), (42, [9, 0, 61, 0, 0], 0), (2, [5], 0), (0, [], 5), (10, [], 0), (0, [], -1), (51, [], 0), (4, [0], 0), (42, [9, 0, 61, 0, 0], 0), (4, [0], 0), (40, [9, 2], 0), (0, [], 120), (10, [], 0), (2, [1], 0), (10, [], 0), (33, [], 0), (50, [], 0), (0, [], 1), (10, [], 0), (51, [], 0), (72, [], 0)]]
def cd_M_bark : List (List qm_Ins) := [
  [(4, [0], 0), (2, [1], 0), (2, [2], 0), (80, [62, 3], 0), (61, [1, 1], 0), (0, [], 0), (70, [], 0)],
  [(4, [0], 0), (42, [9, 0, 61, 0, 0], 0), (4, [0], 0), (2, [1], 0), (2, [2], 0), (80, [60, 3], 0), (0, [], 3), (10, [], 0), (2, [3], 0), (61, [0, 2], 0), (0, [], 1), (63, [3], 0)],
  [(0, [], 0), (64, [3], 0)],
  [(51, [], 0), (0, [], 1), (70, [], 0)]]
def cd_M_isSpan : List (List qm_Ins) := [
  [(2, [0], 0), (0, [], 0), (2, [1], 0), (80, [57, 3], 0), (61, [0, 1], 0), (2, [1], 0), (2, [0], 0), (0, [], 2000), (80, [57, 3], 0), (61, [0, 1], 0), (0, [], 1), (63, [2], 0)],
  [(0, [], 0), (64, [2], 0)],
  [(70, [], 0)]]
def cd_M_measure : List (List qm_Ins) := [
  [(4, [0], 0), (2, [1], 0), (2, [2], 0), (80, [62, 3], 0), (61, [0, 1], 0), (2, [3], 0), (0, [], -1), (60, [0, 2], 0), (2, [3], 0), (2, [4], 0), (80, [67, 2], 0), (61, [1, 2], 0), (64, [1], 0)],
  [(0, [], 0), (70, [], 0)],
  [(4, [0], 0), (42, [9, 0, 61, 0, 0], 0), (4, [0], 0), (2, [1], 0), (2, [2], 0), (80, [60, 3], 0), (0, [], 4), (10, [], 0), (2, [3], 0), (51, [], 0), (4, [0], 0), (42, [9, 0, 61, 0, 0], 0), (4, [0], 0), (2, [1], 0), (2, [2], 0), (80, [60, 3], 0), (0, [], 5), (10, [], 0), (2, [3], 0), (0, [], -1), (60, [1, 3], 0), (0, [], -1), (63, [4], 0)],
  [(2, [4], 0), (64, [4], 0)],
  [(51, [], 0), (0, [], 1), (70, [], 0)]]
def cd_M_span : List (List qm_Ins) := [
  [(2, [1], 0), (0, [], 0), (0, [], 3), (80, [57, 3], 0), (61, [0, 1], 0), (2, [2], 0), (2, [3], 0), (80, [67, 2], 0), (61, [1, 2], 0), (64, [1], 0)],
  [(0, [], 0), (70, [], 0)],
  [(4, [0], 0), (42, [9, 0, 61, 0, 0], 0), (0, [], 10), (0, [], 2), (2, [1], 0), (12, [], 0), (10, [], 0), (2, [2], 0), (51, [], 0), (4, [0], 0), (42, [9, 0, 61, 0, 0], 0), (0, [], 10), (0, [], 2), (2, [1], 0), (12, [], 0), (10, [], 0), (0, [], 1), (10, [], 0), (2, [3], 0), (51, [], 0), (0, [], 1), (70, [], 0)]]
def cd_M_weather : List (List qm_Ins) := [
  [(2, [1], 0), (0, [], 0), (0, [], 9), (80, [57, 3], 0), (61, [0, 1], 0), (2, [2], 0), (0, [], 0), (0, [], 9), (80, [57, 3], 0), (61, [0, 1], 0), (2, [3], 0), (0, [], 0), (0, [], 9), (80, [57, 3], 0), (61, [0, 1], 0), (2, [4], 0), (0, [], 0), (0, [], 40), (80, [57, 3], 0), (61, [0, 1], 0), (4, [0], 0), (42, [9, 0, 61, 0, 0], 0), (0, [], 1), (50, [], 0), (0, [], 12), (60, [1, 2], 0), (64, [1], 0)],
  [(0, [], -1), (70, [], 0)],
  [(0, [], 20), (0, [], 4), (4, [0], 0), (42, [9, 0, 61, 0, 0], 0), (0, [], 1), (50, [], 0), (12, [], 0), (10, [], 0), (5, [5], 0), (4, [0], 0), (42, [9, 0, 61, 0, 0], 0), (2, [5], 0), (2, [1], 0), (51, [], 0), (4, [0], 0), (42, [9, 0, 61, 0, 0], 0), (2, [5], 0), (0, [], 1), (10, [], 0), (2, [2], 0), (51, [], 0), (4, [0], 0), (42, [9, 0, 61, 0, 0], 0), (2, [5], 0), (0, [], 2), (10, [], 0), (2, [3], 0), (51, [], 0), (4, [0], 0), (42, [9, 0, 61, 0, 0], 0), (2, [5], 0), (0, [], 3), (10, [], 0), (2, [4], 0), (51, [], 0), (4, [0], 0), (42, [9, 0, 61, 0, 0], 0), (0, [], 1), (33, [], 0), (50, [], 0), (0, [], 1), (10, [], 0), (51, [], 0), (4, [0], 0), (42, [9, 0, 61, 0, 0], 0), (0, [], 1), (50, [], 0), (0, [], 1), (11, [], 0), (70, [], 0)]]
def cd_M_isWeather : List (List qm_Ins) := [
  [(2, [1], 0), (0, [], 0), (4, [0], 0), (42, [9, 0, 61, 0, 0], 0), (0, [], 1), (50, [], 0), (0, [], 1), (11, [], 0), (80, [57, 3], 0), (70, [], 0)]]
def cd_M_plan : List (List qm_Ins) := [
  [(2, [1], 0), (0, [], 0), (0, [], 39), (80, [57, 3], 0), (61, [0, 1], 0), (4, [0], 0), (2, [2], 0), (80, [71, 2], 0), (61, [1, 2], 0), (64, [1], 0)],
  [(0, [], 0), (70, [], 0)],
  [(4, [0], 0), (42, [9, 0, 61, 0, 0], 0), (0, [], 70), (2, [1], 0), (10, [], 0), (2, [2], 0), (51, [], 0), (0, [], 1), (70, [], 0)]]
def cd_M_ends : List (List qm_Ins) := [
  [(2, [1], 0), (0, [], 0), (0, [], 9), (80, [57, 3], 0), (61, [0, 1], 0), (2, [3], 0), (0, [], 0), (0, [], 1), (80, [57, 3], 0), (61, [1, 2], 0), (64, [1], 0)],
  [(0, [], 0), (70, [], 0)],
  [(4, [0], 0), (42, [9, 0, 61, 0, 0], 0), (0, [], 4), (2, [1], 0), (51, [], 0), (4, [0], 0), (42, [9, 0, 61, 0, 0], 0), (0, [], 5), (2, [2], 0), (61, [0, 3], 0), (0, [], 1), (63, [4], 0)],
  [(0, [], 0), (64, [4], 0)],
  [(51, [], 0), (4, [0], 0), (42, [9, 0, 61, 0, 0], 0), (0, [], 6), (2, [3], 0), (51, [], 0), (0, [], 1), (70, [], 0)]]
def cd_M_four : List (List qm_Ins) := [
  [(0, [], 24), (5, [2], 0), (64, [1], 0)],
  [(2, [2], 0), (61, [2, 2], 0), (4, [0], 0), (42, [9, 4, 63, 0, 0], 0), (4, [0], 0), (40, [9, 5], 0), (2, [1], 0), (2, [2], 0), (19, [], 0), (0, [], 255), (16, [], 0), (51, [], 0), (4, [0], 0), (32, [], 0), (40, [9, 5], 0), (0, [], 1), (10, [], 0), (44, [9, 5], 0), (8, [2], -8), (63, [1], 0)],
  [(72, [], 0)]]
def cd_M_feed : List (List qm_Ins) := [
  [(4, [0], 0), (40, [9, 5], 0), (0, [], 20), (10, [], 0), (0, [], 300), (60, [5, 1], 0), (0, [], -1), (70, [], 0)],
  [(4, [0], 0), (2, [1], 0), (80, [74, 2], 0), (4, [0], 0), (2, [2], 0), (80, [74, 2], 0), (4, [0], 0), (2, [3], 0), (80, [74, 2], 0), (4, [0], 0), (2, [4], 0), (80, [74, 2], 0), (4, [0], 0), (2, [5], 0), (80, [74, 2], 0), (4, [0], 0), (40, [9, 5], 0), (70, [], 0)]]
def cd_M_end : List (List qm_Ins) := [
  [(2, [1], 0), (0, [], 0), (4, [0], 0), (40, [9, 5], 0), (80, [57, 3], 0), (61, [1, 1], 0), (0, [], -1), (70, [], 0)],
  [(4, [0], 0), (2, [1], 0), (44, [9, 5], 0), (2, [1], 0), (70, [], 0)]]
def cd_M_byteAt : List (List qm_Ins) := [
  [(2, [1], 0), (4, [0], 0), (40, [9, 5], 0), (60, [3, 1], 0), (4, [0], 0), (42, [9, 4, 63, 0, 0], 0), (2, [1], 0), (50, [], 0), (63, [2], 0)],
  [(0, [], -1), (64, [2], 0)],
  [(70, [], 0)]]
def cd_M_isLetter : List (List qm_Ins) := [
  [(2, [0], 0), (0, [], 97), (0, [], 122), (80, [57, 3], 0), (61, [1, 1], 0), (2, [0], 0), (0, [], 65), (0, [], 90), (80, [57, 3], 0), (61, [0, 2], 0), (64, [1], 0)],
  [(0, [], 1), (63, [3], 0)],
  [(0, [], 0), (64, [3], 0)],
  [(70, [], 0)]]
def cd_M_isDigit : List (List qm_Ins) := [
  [(2, [0], 0), (0, [], 48), (0, [], 57), (80, [57, 3], 0), (70, [], 0)]]
def cd_M_nextToken : List (List qm_Ins) := [
  [(4, [0], 0), (4, [0], 0), (40, [9, 8], 0), (80, [77, 2], 0), (0, [], 32), (60, [0, 1], 0), (4, [0], 0), (4, [0], 0), (40, [9, 8], 0), (80, [77, 2], 0), (0, [], 10), (60, [1, 2], 0), (64, [1], 0)],
  [(4, [0], 0), (32, [], 0), (40, [9, 8], 0), (0, [], 1), (10, [], 0), (44, [9, 8], 0), (63, [0], 0)],
  [(4, [0], 0), (4, [0], 0), (40, [9, 8], 0), (44, [9, 9], 0), (4, [0], 0), (4, [0], 0), (40, [9, 8], 0), (80, [77, 2], 0), (5, [1], 0), (2, [1], 0), (61, [3, 3], 0), (4, [0], 0), (0, [], 0), (44, [9, 10], 0), (63, [19], 0)],
  [(2, [1], 0), (80, [79, 1], 0), (61, [0, 6], 0), (4, [0], 0), (0, [], 1), (44, [9, 10], 0), (4, [0], 0), (0, [], 0), (44, [9, 11], 0), (64, [4], 0)],
  [(4, [0], 0), (4, [0], 0), (40, [9, 8], 0), (80, [77, 2], 0), (80, [79, 1], 0), (61, [0, 19], 0), (4, [0], 0), (40, [9, 11], 0), (0, [], 100000), (60, [3, 5], 0), (4, [0], 0), (0, [], 10), (4, [0], 0), (40, [9, 11], 0), (12, [], 0), (4, [0], 0), (4, [0], 0), (40, [9, 8], 0), (80, [77, 2], 0), (10, [], 0), (0, [], 48), (11, [], 0), (44, [9, 11], 0), (64, [5], 0)],
  [(4, [0], 0), (32, [], 0), (40, [9, 8], 0), (0, [], 1), (10, [], 0), (44, [9, 8], 0), (63, [4], 0)],
  [(2, [1], 0), (80, [78, 1], 0), (61, [0, 10], 0), (4, [0], 0), (0, [], 2), (44, [9, 10], 0), (4, [0], 0), (1, [], 0), (45, [9, 12], 0), (64, [7], 0)],
  [(4, [0], 0), (4, [0], 0), (40, [9, 8], 0), (80, [77, 2], 0), (80, [78, 1], 0), (61, [0, 9], 0), (4, [0], 0), (40, [9, 8], 0), (4, [0], 0), (40, [9, 9], 0), (11, [], 0), (0, [], 7), (60, [3, 8], 0), (4, [0], 0), (4, [0], 0), (41, [9, 12], 0), (0, [], 8), (28, [], 0), (4, [0], 0), (4, [0], 0), (40, [9, 8], 0), (80, [77, 2], 0), (30, [], 0), (27, [], 0), (45, [9, 12], 0), (64, [8], 0)],
  [(4, [0], 0), (32, [], 0), (40, [9, 8], 0), (0, [], 1), (10, [], 0), (44, [9, 8], 0), (63, [7], 0)],
  [(4, [0], 0), (40, [9, 8], 0), (4, [0], 0), (40, [9, 9], 0), (11, [], 0), (0, [], 7), (60, [5, 19], 0), (4, [0], 0), (1, [], 0), (45, [9, 12], 0), (63, [19], 0)],
  [(4, [0], 0), (32, [], 0), (40, [9, 8], 0), (0, [], 1), (10, [], 0), (44, [9, 8], 0), (2, [1], 0), (0, [], 60), (60, [0, 11], 0), (2, [1], 0), (0, [], 62), (60, [0, 11], 0), (2, [1], 0), (0, [], 61), (60, [0, 11], 0), (2, [1], 0), (0, [], 35), (60, [0, 11], 0), (2, [1], 0), (0, [], 43), (60, [0, 11], 0), (2, [1], 0), (0, [], 45), (60, [0, 11], 0), (2, [1], 0), (0, [], 42), (60, [0, 11], 0), (2, [1], 0), (0, [], 47), (60, [0, 11], 0), (2, [1], 0), (0, [], 40), (60, [0, 11], 0), (2, [1], 0), (0, [], 41), (60, [0, 11], 0), (2, [1], 0), (0, [], 59), (60, [0, 11], 0), (2, [1], 0), (0, [], 44), (60, [1, 12], 0), (64, [11], 0)],
  [(0, [], 1), (63, [13], 0)],
  [(0, [], 0), (64, [13], 0)],
  [(5, [2], 0), (4, [0], 0), (2, [2], 0), (61, [0, 14], 0), (2, [1], 0), (63, [15], 0)],
  [(0, [], 3), (64, [15], 0)],
  [(44, [9, 10], 0), (2, [1], 0), (0, [], 60), (60, [0, 16], 0), (2, [1], 0), (0, [], 62), (60, [1, 19], 0), (64, [16], 0)],
  [(4, [0], 0), (4, [0], 0), (40, [9, 8], 0), (80, [77, 2], 0), (0, [], 61), (60, [1, 19], 0), (4, [0], 0), (32, [], 0), (40, [9, 8], 0), (0, [], 1), (10, [], 0), (44, [9, 8], 0), (4, [0], 0), (2, [1], 0), (0, [], 60), (60, [1, 17], 0), (0, [], 4), (63, [18], 0)],
  [(0, [], 5), (64, [18], 0)],
  [(44, [9, 10], 0), (64, [19], 0)],
  [(72, [], 0)]]
def cd_M_w3 : List (List qm_Ins) := [
  [(2, [0], 0), (30, [], 0), (0, [], 8), (28, [], 0), (2, [1], 0), (30, [], 0), (27, [], 0), (0, [], 8), (28, [], 0), (2, [2], 0), (30, [], 0), (27, [], 0), (71, [], 0)]]
def cd_M_w5 : List (List qm_Ins) := [
  [(2, [0], 0), (2, [1], 0), (2, [2], 0), (80, [81, 3], 0), (0, [], 8), (28, [], 0), (2, [3], 0), (30, [], 0), (27, [], 0), (0, [], 8), (28, [], 0), (2, [4], 0), (30, [], 0), (27, [], 0), (71, [], 0)]]
def cd_M_w4 : List (List qm_Ins) := [
  [(2, [0], 0), (2, [1], 0), (2, [2], 0), (80, [81, 3], 0), (0, [], 8), (28, [], 0), (2, [3], 0), (30, [], 0), (27, [], 0), (71, [], 0)]]
def cd_M_w6 : List (List qm_Ins) := [
  [(2, [0], 0), (2, [1], 0), (2, [2], 0), (2, [3], 0), (2, [4], 0), (80, [82, 5], 0), (0, [], 8), (28, [], 0), (2, [5], 0), (30, [], 0), (27, [], 0), (71, [], 0)]]
def cd_M_isWord : List (List qm_Ins) := [
  [(4, [0], 0), (40, [9, 10], 0), (0, [], 2), (60, [1, 1], 0), (4, [0], 0), (41, [9, 12], 0), (3, [1], 0), (29, [], 0), (61, [1, 1], 0), (0, [], 1), (63, [2], 0)],
  [(0, [], 0), (64, [2], 0)],
  [(70, [], 0)]]
def cd_M_emit : List (List qm_Ins) := [
  [(4, [0], 0), (42, [9, 3, 62, 0, 0], 0), (4, [0], 0), (40, [9, 13], 0), (0, [], 110), (10, [], 0), (0, [], 2), (4, [0], 0), (40, [9, 15], 0), (12, [], 0), (10, [], 0), (2, [1], 0), (51, [], 0), (4, [0], 0), (42, [9, 3, 62, 0, 0], 0), (4, [0], 0), (40, [9, 13], 0), (0, [], 110), (10, [], 0), (0, [], 2), (4, [0], 0), (40, [9, 15], 0), (12, [], 0), (10, [], 0), (0, [], 1), (10, [], 0), (2, [2], 0), (51, [], 0), (4, [0], 0), (32, [], 0), (40, [9, 15], 0), (0, [], 1), (10, [], 0), (44, [9, 15], 0), (72, [], 0)]]
def cd_M_push : List (List qm_Ins) := [
  [(4, [0], 0), (42, [9, 17, 64, 0, 0], 0), (4, [0], 0), (40, [9, 18], 0), (2, [1], 0), (51, [], 0), (4, [0], 0), (32, [], 0), (40, [9, 18], 0), (0, [], 1), (10, [], 0), (44, [9, 18], 0), (72, [], 0)]]
def cd_M_rank : List (List qm_Ins) := [
  [(2, [0], 0), (0, [], 40), (60, [2, 1], 0), (0, [], 0), (63, [8], 0)],
  [(2, [0], 0), (0, [], 22), (60, [1, 2], 0), (0, [], 1), (63, [8], 0)],
  [(2, [0], 0), (0, [], 21), (60, [1, 3], 0), (0, [], 2), (63, [8], 0)],
  [(2, [0], 0), (0, [], 20), (60, [1, 4], 0), (0, [], 3), (63, [8], 0)],
  [(2, [0], 0), (0, [], 10), (60, [2, 5], 0), (0, [], 4), (63, [8], 0)],
  [(2, [0], 0), (0, [], 2), (60, [1, 6], 0), (0, [], 7), (63, [8], 0)],
  [(2, [0], 0), (0, [], 5), (60, [2, 7], 0), (0, [], 6), (63, [8], 0)],
  [(0, [], 5), (64, [8], 0)],
  [(70, [], 0)]]
def cd_M_settle : List (List qm_Ins) := [
  [(4, [0], 0), (40, [9, 18], 0), (61, [5, 2], 0), (4, [0], 0), (42, [9, 17, 64, 0, 0], 0), (4, [0], 0), (40, [9, 18], 0), (0, [], 1), (11, [], 0), (50, [], 0), (80, [88, 1], 0), (2, [1], 0), (60, [2, 2], 0), (4, [0], 0), (32, [], 0), (40, [9, 18], 0), (0, [], 1), (11, [], 0), (44, [9, 18], 0), (4, [0], 0), (4, [0], 0), (42, [9, 17, 64, 0, 0], 0), (4, [0], 0), (40, [9, 18], 0), (50, [], 0), (0, [], 0), (80, [86, 3], 0), (4, [0], 0), (42, [9, 17, 64, 0, 0], 0), (4, [0], 0), (40, [9, 18], 0), (50, [], 0), (0, [], 2), (60, [0, 1], 0), (4, [0], 0), (42, [9, 17, 64, 0, 0], 0), (4, [0], 0), (40, [9, 18], 0), (50, [], 0), (0, [], 20), (60, [1, 0], 0), (64, [1], 0)],
  [(4, [0], 0), (32, [], 0), (40, [9, 19], 0), (0, [], 1), (11, [], 0), (44, [9, 19], 0), (63, [0], 0)],
  [(72, [], 0)]]
def cd_M_whole : List (List qm_Ins) := [
  [(4, [0], 0), (0, [], 1), (47, [9, 20], 0), (4, [0], 0), (0, [], 7), (80, [89, 2], 0), (72, [], 0)]]
def cd_M_marker : List (List qm_Ins) := [
  [(4, [0], 0), (40, [9, 18], 0), (0, [], 1), (11, [], 0), (5, [1], 0), (64, [1], 0)],
  [(2, [1], 0), (61, [2, 2], 0), (4, [0], 0), (42, [9, 17, 64, 0, 0], 0), (2, [1], 0), (50, [], 0), (0, [], 40), (60, [3, 2], 0), (8, [1], -1), (63, [1], 0)],
  [(2, [1], 0), (70, [], 0)]]
def cd_M_isCompared : List (List qm_Ins) := [
  [(4, [0], 0), (40, [9, 18], 0), (0, [], 1), (11, [], 0), (5, [1], 0), (64, [1], 0)],
  [(2, [1], 0), (61, [2, 2], 0), (4, [0], 0), (42, [9, 17, 64, 0, 0], 0), (2, [1], 0), (50, [], 0), (80, [88, 1], 0), (0, [], 4), (60, [5, 2], 0), (8, [1], -1), (63, [1], 0)],
  [(2, [1], 0), (61, [2, 3], 0), (4, [0], 0), (42, [9, 17, 64, 0, 0], 0), (2, [1], 0), (50, [], 0), (80, [88, 1], 0), (0, [], 4), (60, [1, 3], 0), (0, [], 1), (63, [4], 0)],
  [(0, [], 0), (64, [4], 0)],
  [(70, [], 0)]]
def cd_M_isAskAhead : List (List qm_Ins) := [
  [(2, [1], 0), (61, [0, 2], 0), (4, [0], 0), (80, [91, 1], 0), (61, [3, 2], 0), (4, [0], 0), (40, [9, 18], 0), (61, [0, 1], 0), (4, [0], 0), (42, [9, 17, 64, 0, 0], 0), (4, [0], 0), (40, [9, 18], 0), (0, [], 1), (11, [], 0), (50, [], 0), (80, [88, 1], 0), (0, [], 1), (0, [], 3), (80, [57, 3], 0), (61, [0, 2], 0), (64, [1], 0)],
  [(0, [], 1), (63, [3], 0)],
  [(0, [], 0), (64, [3], 0)],
  [(70, [], 0)]]
def cd_M_opensBy : List (List qm_Ins) := [
  [(2, [1], 0), (0, [], 41), (60, [0, 1], 0), (2, [1], 0), (0, [], 42), (60, [1, 2], 0), (64, [1], 0)],
  [(4, [0], 0), (80, [80, 1], 0), (64, [2], 0)],
  [(2, [1], 0), (0, [], 41), (60, [0, 3], 0), (2, [1], 0), (0, [], 42), (60, [1, 4], 0), (64, [3], 0)],
  [(4, [0], 0), (40, [9, 10], 0), (0, [], 40), (60, [0, 4], 0), (0, [], 1), (70, [], 0)],
  [(4, [0], 0), (40, [9, 19], 0), (0, [], 8), (60, [1, 5], 0), (0, [], 3), (70, [], 0)],
  [(4, [0], 0), (32, [], 0), (40, [9, 19], 0), (0, [], 1), (10, [], 0), (44, [9, 19], 0), (4, [0], 0), (2, [1], 0), (80, [87, 2], 0), (4, [0], 0), (80, [80, 1], 0), (0, [], 0), (70, [], 0)]]
def cd_M_beginOne : List (List qm_Ins) := [
  [(4, [0], 0), (40, [9, 10], 0), (0, [], 1), (60, [1, 1], 0), (4, [0], 0), (40, [9, 11], 0), (0, [], 9999), (60, [5, 1], 0), (0, [], 2), (70, [], 0)],
  [(4, [0], 0), (80, [101, 1], 0), (5, [2], 0), (2, [2], 0), (61, [2, 2], 0), (4, [0], 0), (2, [2], 0), (80, [103, 2], 0), (61, [1, 2], 0), (0, [], 5), (70, [], 0)],
  [(4, [0], 0), (40, [9, 10], 0), (0, [], 1), (60, [0, 3], 0), (2, [2], 0), (61, [2, 8], 0), (64, [3], 0)],
  [(4, [0], 0), (4, [0], 0), (40, [9, 10], 0), (0, [], 1), (60, [1, 4], 0), (0, [], 0), (63, [5], 0)],
  [(0, [], 1), (64, [5], 0)],
  [(4, [0], 0), (40, [9, 10], 0), (0, [], 1), (60, [1, 6], 0), (4, [0], 0), (40, [9, 11], 0), (63, [7], 0)],
  [(2, [2], 0), (64, [7], 0)],
  [(80, [86, 3], 0), (4, [0], 0), (80, [80, 1], 0), (4, [0], 0), (80, [90, 1], 0), (0, [], 0), (70, [], 0)],
  [(4, [0], 0), (40, [9, 10], 0), (0, [], 40), (60, [1, 9], 0), (4, [0], 0), (0, [], 40), (80, [94, 2], 0), (70, [], 0)],
  [(4, [0], 0), (40, [9, 10], 0), (0, [], 45), (60, [1, 10], 0), (4, [0], 0), (0, [], 2), (80, [94, 2], 0), (70, [], 0)],
  [(4, [0], 0), (0, [], 109), (0, [], 105), (0, [], 110), (80, [81, 3], 0), (80, [85, 2], 0), (61, [0, 11], 0), (4, [0], 0), (0, [], 41), (80, [94, 2], 0), (70, [], 0)],
  [(4, [0], 0), (0, [], 109), (0, [], 97), (0, [], 120), (80, [81, 3], 0), (80, [85, 2], 0), (61, [0, 12], 0), (4, [0], 0), (0, [], 42), (80, [94, 2], 0), (70, [], 0)],
  [(4, [0], 0), (0, [], 110), (0, [], 111), (0, [], 116), (80, [81, 3], 0), (80, [85, 2], 0), (61, [0, 13], 0), (4, [0], 0), (2, [1], 0), (80, [93, 2], 0), (61, [0, 13], 0), (4, [0], 0), (0, [], 20), (80, [94, 2], 0), (63, [14], 0)],
  [(0, [], 1), (64, [14], 0)],
  [(70, [], 0)]]
def cd_M_compareOf : List (List qm_Ins) := [
  [(4, [0], 0), (40, [9, 10], 0), (0, [], 60), (60, [1, 1], 0), (0, [], 10), (63, [7], 0)],
  [(4, [0], 0), (40, [9, 10], 0), (0, [], 4), (60, [1, 2], 0), (0, [], 11), (63, [7], 0)],
  [(4, [0], 0), (40, [9, 10], 0), (0, [], 62), (60, [1, 3], 0), (0, [], 12), (63, [7], 0)],
  [(4, [0], 0), (40, [9, 10], 0), (0, [], 5), (60, [1, 4], 0), (0, [], 13), (63, [7], 0)],
  [(4, [0], 0), (40, [9, 10], 0), (0, [], 61), (60, [1, 5], 0), (0, [], 14), (63, [7], 0)],
  [(4, [0], 0), (40, [9, 10], 0), (0, [], 35), (60, [1, 6], 0), (0, [], 15), (63, [7], 0)],
  [(0, [], -1), (64, [7], 0)],
  [(70, [], 0)]]
def cd_M_betweenOf : List (List qm_Ins) := [
  [(4, [0], 0), (40, [9, 10], 0), (0, [], 43), (60, [1, 1], 0), (0, [], 3), (70, [], 0)],
  [(4, [0], 0), (40, [9, 10], 0), (0, [], 45), (60, [1, 2], 0), (0, [], 4), (70, [], 0)],
  [(4, [0], 0), (40, [9, 10], 0), (0, [], 42), (60, [1, 3], 0), (0, [], 5), (70, [], 0)],
  [(4, [0], 0), (40, [9, 10], 0), (0, [], 47), (60, [1, 4], 0), (0, [], 6), (70, [], 0)],
  [(2, [1], 0), (61, [0, 5], 0), (4, [0], 0), (80, [91, 1], 0), (61, [2, 6], 0), (64, [5], 0)],
  [(0, [], -1), (70, [], 0)],
  [(4, [0], 0), (80, [92, 1], 0), (61, [1, 7], 0), (4, [0], 0), (80, [96, 1], 0), (70, [], 0)],
  [(4, [0], 0), (0, [], 97), (0, [], 110), (0, [], 100), (80, [81, 3], 0), (80, [85, 2], 0), (61, [0, 8], 0), (0, [], 21), (63, [10], 0)],
  [(4, [0], 0), (40, [9, 10], 0), (0, [], 2), (60, [1, 9], 0), (4, [0], 0), (41, [9, 12], 0), (1, [], 28530), (29, [], 0), (61, [1, 9], 0), (0, [], 22), (63, [10], 0)],
  [(0, [], -1), (64, [10], 0)],
  [(70, [], 0)]]
def cd_M_behindOne : List (List qm_Ins) := [
  [(4, [0], 0), (2, [1], 0), (80, [97, 2], 0), (5, [2], 0), (4, [0], 0), (80, [91, 1], 0), (5, [3], 0), (2, [3], 0), (61, [3, 1], 0), (0, [], -1), (63, [2], 0)],
  [(4, [0], 0), (42, [9, 17, 64, 0, 0], 0), (2, [3], 0), (50, [], 0), (64, [2], 0)],
  [(5, [4], 0), (2, [2], 0), (61, [2, 3], 0), (4, [0], 0), (2, [2], 0), (80, [88, 1], 0), (80, [89, 2], 0), (4, [0], 0), (2, [2], 0), (80, [87, 2], 0), (4, [0], 0), (0, [], 0), (47, [9, 20], 0), (63, [11], 0)],
  [(4, [0], 0), (40, [9, 10], 0), (0, [], 41), (60, [1, 8], 0), (2, [4], 0), (0, [], 40), (60, [0, 4], 0), (2, [4], 0), (0, [], 43), (60, [2, 8], 0), (64, [4], 0)],
  [(4, [0], 0), (0, [], 1), (80, [89, 2], 0), (4, [0], 0), (32, [], 0), (40, [9, 18], 0), (0, [], 1), (11, [], 0), (44, [9, 18], 0), (4, [0], 0), (32, [], 0), (40, [9, 19], 0), (0, [], 1), (11, [], 0), (44, [9, 19], 0), (2, [4], 0), (0, [], 43), (60, [2, 7], 0), (4, [0], 0), (2, [4], 0), (0, [], 43), (60, [1, 5], 0), (0, [], 7), (63, [6], 0)],
  [(0, [], 8), (64, [6], 0)],
  [(0, [], 0), (80, [86, 3], 0), (64, [7], 0)],
  [(4, [0], 0), (80, [90, 1], 0), (63, [11], 0)],
  [(4, [0], 0), (40, [9, 10], 0), (0, [], 44), (60, [1, 10], 0), (2, [4], 0), (0, [], 41), (60, [0, 9], 0), (2, [4], 0), (0, [], 42), (60, [1, 10], 0), (64, [9], 0)],
  [(4, [0], 0), (0, [], 1), (80, [89, 2], 0), (4, [0], 0), (42, [9, 17, 64, 0, 0], 0), (2, [3], 0), (2, [4], 0), (0, [], 2), (10, [], 0), (51, [], 0), (4, [0], 0), (0, [], 0), (47, [9, 20], 0), (63, [11], 0)],
  [(0, [], 0), (70, [], 0)],
  [(4, [0], 0), (80, [80, 1], 0), (0, [], 1), (70, [], 0)]]
def cd_M_parsed : List (List qm_Ins) := [
  [(4, [0], 0), (0, [], 0), (44, [9, 18], 0), (4, [0], 0), (0, [], 0), (47, [9, 20], 0), (0, [], 1), (5, [2], 0), (64, [1], 0)],
  [(2, [2], 0), (61, [0, 4], 0), (4, [0], 0), (40, [9, 20], 0), (61, [0, 2], 0), (4, [0], 0), (2, [1], 0), (80, [98, 2], 0), (5, [2], 0), (63, [1], 0)],
  [(4, [0], 0), (2, [1], 0), (80, [95, 2], 0), (5, [3], 0), (2, [3], 0), (61, [0, 3], 0), (2, [3], 0), (70, [], 0)],
  [(63, [1], 0)],
  [(4, [0], 0), (80, [91, 1], 0), (61, [3, 5], 0), (2, [1], 0), (61, [0, 6], 0), (4, [0], 0), (80, [92, 1], 0), (61, [1, 6], 0), (64, [5], 0)],
  [(0, [], 1), (70, [], 0)],
  [(4, [0], 0), (0, [], 1), (80, [89, 2], 0), (0, [], 0), (70, [], 0)]]
def cd_M_w7 : List (List qm_Ins) := [
  [(2, [0], 0), (2, [1], 0), (2, [2], 0), (2, [3], 0), (2, [4], 0), (2, [5], 0), (80, [84, 6], 0), (0, [], 8), (28, [], 0), (2, [6], 0), (30, [], 0), (27, [], 0), (71, [], 0)]]
def cd_M_nameOf : List (List qm_Ins) := [
  [(4, [0], 0), (40, [9, 10], 0), (0, [], 2), (60, [0, 1], 0), (0, [], -1), (70, [], 0)],
  [(4, [0], 0), (41, [9, 12], 0), (0, [], 119), (0, [], 97), (0, [], 116), (0, [], 101), (0, [], 114), (80, [82, 5], 0), (29, [], 0), (61, [1, 2], 0), (0, [], 0), (70, [], 0)],
  [(4, [0], 0), (41, [9, 12], 0), (0, [], 115), (0, [], 105), (0, [], 122), (0, [], 101), (80, [83, 4], 0), (29, [], 0), (61, [1, 3], 0), (0, [], 1), (70, [], 0)],
  [(4, [0], 0), (41, [9, 12], 0), (0, [], 107), (0, [], 105), (0, [], 110), (0, [], 100), (80, [83, 4], 0), (29, [], 0), (61, [1, 4], 0), (0, [], 2), (70, [], 0)],
  [(4, [0], 0), (41, [9, 12], 0), (0, [], 98), (0, [], 97), (0, [], 114), (0, [], 107), (80, [83, 4], 0), (29, [], 0), (61, [1, 5], 0), (0, [], 3), (70, [], 0)],
  [(4, [0], 0), (41, [9, 12], 0), (0, [], 104), (0, [], 105), (0, [], 103), (0, [], 104), (80, [83, 4], 0), (29, [], 0), (61, [1, 6], 0), (0, [], 4), (70, [], 0)],
  [(4, [0], 0), (41, [9, 12], 0), (0, [], 116), (0, [], 111), (0, [], 112), (80, [81, 3], 0), (29, [], 0), (61, [1, 7], 0), (0, [], 5), (70, [], 0)],
  [(4, [0], 0), (41, [9, 12], 0), (0, [], 98), (0, [], 101), (0, [], 115), (0, [], 105), (0, [], 100), (0, [], 101), (80, [84, 6], 0), (29, [], 0), (61, [1, 8], 0), (0, [], 6), (70, [], 0)],
  [(4, [0], 0), (41, [9, 12], 0), (0, [], 115), (0, [], 117), (0, [], 110), (0, [], 110), (0, [], 121), (80, [82, 5], 0), (29, [], 0), (61, [1, 9], 0), (0, [], 7), (70, [], 0)],
  [(4, [0], 0), (41, [9, 12], 0), (0, [], 119), (0, [], 105), (0, [], 110), (0, [], 100), (80, [83, 4], 0), (29, [], 0), (61, [1, 10], 0), (0, [], 8), (70, [], 0)],
  [(4, [0], 0), (41, [9, 12], 0), (0, [], 115), (0, [], 117), (0, [], 110), (80, [81, 3], 0), (29, [], 0), (61, [1, 11], 0), (0, [], 9), (70, [], 0)],
  [(4, [0], 0), (80, [102, 1], 0), (70, [], 0)]]
def cd_M_farName : List (List qm_Ins) := [
  [(4, [0], 0), (41, [9, 12], 0), (0, [], 114), (0, [], 97), (0, [], 105), (0, [], 110), (80, [83, 4], 0), (29, [], 0), (61, [1, 1], 0), (0, [], 10), (70, [], 0)],
  [(4, [0], 0), (41, [9, 12], 0), (0, [], 97), (0, [], 105), (0, [], 114), (80, [81, 3], 0), (29, [], 0), (61, [1, 2], 0), (0, [], 11), (70, [], 0)],
  [(4, [0], 0), (41, [9, 12], 0), (0, [], 119), (0, [], 101), (0, [], 101), (0, [], 107), (80, [83, 4], 0), (29, [], 0), (61, [1, 3], 0), (0, [], 12), (70, [], 0)],
  [(4, [0], 0), (41, [9, 12], 0), (0, [], 119), (0, [], 105), (0, [], 100), (0, [], 101), (80, [83, 4], 0), (29, [], 0), (61, [1, 4], 0), (0, [], 13), (70, [], 0)],
  [(4, [0], 0), (41, [9, 12], 0), (0, [], 116), (0, [], 97), (0, [], 108), (0, [], 108), (80, [83, 4], 0), (29, [], 0), (61, [1, 5], 0), (0, [], 14), (70, [], 0)],
  [(4, [0], 0), (41, [9, 12], 0), (0, [], 112), (0, [], 111), (0, [], 115), (0, [], 116), (0, [], 115), (80, [82, 5], 0), (29, [], 0), (61, [1, 6], 0), (0, [], 15), (70, [], 0)],
  [(4, [0], 0), (41, [9, 12], 0), (0, [], 99), (0, [], 114), (0, [], 111), (0, [], 115), (0, [], 115), (0, [], 101), (0, [], 100), (80, [100, 7], 0), (29, [], 0), (61, [1, 7], 0), (0, [], 16), (63, [8], 0)],
  [(0, [], -1), (64, [8], 0)],
  [(70, [], 0)]]
def cd_M_isOf : List (List qm_Ins) := [
  [(2, [1], 0), (0, [], 12), (60, [0, 2], 0), (4, [0], 0), (40, [9, 21], 0), (0, [], 2), (60, [1, 1], 0), (2, [1], 0), (0, [], 12), (60, [5, 3], 0), (63, [2], 0)],
  [(2, [1], 0), (0, [], 8), (60, [2, 2], 0), (4, [0], 0), (40, [9, 21], 0), (61, [1, 3], 0), (2, [1], 0), (0, [], 12), (60, [3, 3], 0), (64, [2], 0)],
  [(0, [], 1), (63, [4], 0)],
  [(0, [], 0), (64, [4], 0)],
  [(70, [], 0)]]
def cd_M_sortOf : List (List qm_Ins) := [
  [(4, [0], 0), (0, [], 100), (0, [], 114), (0, [], 121), (80, [81, 3], 0), (80, [85, 2], 0), (61, [0, 1], 0), (0, [], 0), (70, [], 0)],
  [(4, [0], 0), (0, [], 116), (0, [], 104), (0, [], 105), (0, [], 99), (0, [], 107), (80, [82, 5], 0), (80, [85, 2], 0), (61, [0, 2], 0), (0, [], 1), (70, [], 0)],
  [(4, [0], 0), (0, [], 115), (0, [], 116), (0, [], 97), (0, [], 110), (0, [], 100), (80, [82, 5], 0), (80, [85, 2], 0), (61, [0, 3], 0), (0, [], 2), (70, [], 0)],
  [(4, [0], 0), (0, [], 116), (0, [], 97), (0, [], 107), (0, [], 101), (80, [83, 4], 0), (80, [85, 2], 0), (61, [0, 4], 0), (0, [], 3), (70, [], 0)],
  [(4, [0], 0), (0, [], 104), (0, [], 101), (0, [], 97), (0, [], 116), (80, [83, 4], 0), (80, [85, 2], 0), (61, [0, 5], 0), (0, [], 4), (70, [], 0)],
  [(4, [0], 0), (0, [], 98), (0, [], 101), (0, [], 101), (0, [], 116), (0, [], 108), (0, [], 101), (80, [84, 6], 0), (80, [85, 2], 0), (61, [0, 6], 0), (0, [], 5), (63, [8], 0)],
  [(4, [0], 0), (0, [], 108), (0, [], 97), (0, [], 121), (80, [81, 3], 0), (80, [85, 2], 0), (61, [0, 7], 0), (0, [], 6), (63, [8], 0)],
  [(0, [], -1), (64, [8], 0)],
  [(70, [], 0)]]
def cd_M_figure : List (List qm_Ins) := [
  [(4, [0], 0), (40, [9, 10], 0), (0, [], 1), (60, [0, 1], 0), (0, [], 1), (70, [], 0)],
  [(4, [0], 0), (40, [9, 11], 0), (2, [2], 0), (2, [3], 0), (80, [57, 3], 0), (61, [1, 2], 0), (0, [], 2), (70, [], 0)],
  [(4, [0], 0), (42, [9, 3, 62, 0, 0], 0), (2, [1], 0), (4, [0], 0), (40, [9, 11], 0), (51, [], 0), (4, [0], 0), (80, [80, 1], 0), (0, [], 0), (70, [], 0)]]
def cd_M_expects : List (List qm_Ins) := [
  [(2, [1], 0), (61, [1, 1], 0), (0, [], 1), (70, [], 0)],
  [(4, [0], 0), (80, [80, 1], 0), (0, [], 0), (70, [], 0)]]
def cd_M_laidBy : List (List qm_Ins) := [
  [(4, [0], 0), (2, [1], 0), (0, [], 1), (10, [], 0), (0, [], 0), (0, [], 3), (80, [105, 4], 0), (5, [2], 0), (2, [2], 0), (61, [1, 3], 0), (4, [0], 0), (4, [0], 0), (40, [9, 10], 0), (0, [], 44), (60, [1, 1], 0), (0, [], 1), (63, [2], 0)],
  [(0, [], 0), (64, [2], 0)],
  [(80, [106, 2], 0), (5, [2], 0), (64, [3], 0)],
  [(2, [2], 0), (61, [1, 4], 0), (4, [0], 0), (2, [1], 0), (0, [], 2), (10, [], 0), (0, [], 1), (0, [], 20), (80, [105, 4], 0), (5, [2], 0), (64, [4], 0)],
  [(2, [2], 0), (61, [1, 7], 0), (4, [0], 0), (4, [0], 0), (40, [9, 10], 0), (0, [], 44), (60, [1, 5], 0), (0, [], 1), (63, [6], 0)],
  [(0, [], 0), (64, [6], 0)],
  [(80, [106, 2], 0), (5, [2], 0), (64, [7], 0)],
  [(2, [2], 0), (61, [1, 8], 0), (4, [0], 0), (2, [1], 0), (0, [], 3), (10, [], 0), (0, [], 0), (0, [], 2000), (80, [105, 4], 0), (5, [2], 0), (64, [8], 0)],
  [(2, [2], 0), (61, [1, 11], 0), (4, [0], 0), (4, [0], 0), (40, [9, 10], 0), (0, [], 2), (60, [1, 9], 0), (4, [0], 0), (41, [9, 12], 0), (1, [], 28526), (29, [], 0), (61, [1, 9], 0), (0, [], 1), (63, [10], 0)],
  [(0, [], 0), (64, [10], 0)],
  [(80, [106, 2], 0), (5, [2], 0), (64, [11], 0)],
  [(2, [2], 0), (61, [1, 12], 0), (4, [0], 0), (2, [1], 0), (0, [], 4), (10, [], 0), (0, [], 0), (0, [], 5), (80, [105, 4], 0), (63, [13], 0)],
  [(2, [2], 0), (64, [13], 0)],
  [(70, [], 0)]]
def cd_M_clause : List (List qm_Ins) := [
  [(4, [0], 0), (80, [104, 1], 0), (5, [1], 0), (2, [1], 0), (61, [3, 1], 0), (0, [], 1), (70, [], 0)],
  [(2, [1], 0), (0, [], 5), (60, [3, 2], 0), (4, [0], 0), (40, [9, 22], 0), (2, [1], 0), (19, [], 0), (0, [], 1), (16, [], 0), (0, [], 1), (60, [1, 2], 0), (0, [], 4), (70, [], 0)],
  [(4, [0], 0), (42, [9, 3, 62, 0, 0], 0), (4, [0], 0), (40, [9, 13], 0), (50, [], 0), (5, [2], 0), (2, [2], 0), (0, [], 20), (60, [1, 3], 0), (0, [], 6), (70, [], 0)],
  [(2, [1], 0), (0, [], 5), (60, [3, 4], 0), (4, [0], 0), (32, [], 0), (40, [9, 22], 0), (0, [], 1), (2, [1], 0), (18, [], 0), (17, [], 0), (44, [9, 22], 0), (64, [4], 0)],
  [(4, [0], 0), (2, [1], 0), (44, [9, 21], 0), (4, [0], 0), (80, [80, 1], 0), (4, [0], 0), (40, [9, 13], 0), (0, [], 1), (10, [], 0), (0, [], 5), (2, [2], 0), (12, [], 0), (10, [], 0), (5, [3], 0), (4, [0], 0), (42, [9, 3, 62, 0, 0], 0), (2, [3], 0), (2, [1], 0), (51, [], 0), (4, [0], 0), (40, [9, 15], 0), (5, [4], 0), (2, [1], 0), (0, [], 6), (60, [1, 5], 0), (4, [0], 0), (2, [3], 0), (80, [107, 2], 0), (63, [8], 0)],
  [(4, [0], 0), (2, [1], 0), (0, [], 5), (60, [1, 6], 0), (0, [], 1), (63, [7], 0)],
  [(0, [], 0), (64, [7], 0)],
  [(80, [99, 2], 0), (64, [8], 0)],
  [(5, [5], 0), (2, [5], 0), (61, [0, 9], 0), (2, [5], 0), (70, [], 0)],
  [(2, [1], 0), (0, [], 6), (60, [0, 10], 0), (4, [0], 0), (42, [9, 3, 62, 0, 0], 0), (2, [3], 0), (0, [], 1), (10, [], 0), (2, [4], 0), (51, [], 0), (4, [0], 0), (42, [9, 3, 62, 0, 0], 0), (2, [3], 0), (0, [], 2), (10, [], 0), (4, [0], 0), (40, [9, 15], 0), (51, [], 0), (64, [10], 0)],
  [(4, [0], 0), (42, [9, 3, 62, 0, 0], 0), (4, [0], 0), (40, [9, 13], 0), (33, [], 0), (50, [], 0), (0, [], 1), (10, [], 0), (51, [], 0), (4, [0], 0), (40, [9, 10], 0), (0, [], 59), (60, [0, 11], 0), (0, [], 1), (70, [], 0)],
  [(4, [0], 0), (80, [80, 1], 0), (0, [], 0), (70, [], 0)]]
def cd_M_readText : List (List qm_Ins) := [
  [(4, [0], 0), (0, [], 720), (4, [0], 0), (42, [9, 0, 61, 0, 0], 0), (0, [], 2), (50, [], 0), (12, [], 0), (44, [9, 13], 0), (4, [0], 0), (42, [9, 3, 62, 0, 0], 0), (4, [0], 0), (40, [9, 13], 0), (0, [], 0), (51, [], 0), (4, [0], 0), (0, [], 0), (44, [9, 15], 0), (4, [0], 0), (0, [], 0), (44, [9, 19], 0), (4, [0], 0), (0, [], 0), (44, [9, 22], 0), (4, [0], 0), (0, [], 0), (44, [9, 8], 0), (4, [0], 0), (80, [80, 1], 0), (64, [1], 0)],
  [(4, [0], 0), (40, [9, 10], 0), (61, [0, 3], 0), (4, [0], 0), (80, [108, 1], 0), (5, [1], 0), (2, [1], 0), (61, [0, 2], 0), (2, [1], 0), (70, [], 0)],
  [(63, [1], 0)],
  [(0, [], 0), (70, [], 0)]]
def cd_M_text : List (List qm_Ins) := [
  [(4, [0], 0), (42, [9, 0, 61, 0, 0], 0), (0, [], 2), (50, [], 0), (0, [], 4), (60, [1, 1], 0), (0, [], -1), (70, [], 0)],
  [(4, [0], 0), (4, [0], 0), (80, [109, 1], 0), (44, [9, 6], 0), (4, [0], 0), (4, [0], 0), (40, [9, 6], 0), (61, [1, 2], 0), (0, [], -1), (63, [3], 0)],
  [(4, [0], 0), (40, [9, 9], 0), (64, [3], 0)],
  [(44, [9, 7], 0), (4, [0], 0), (0, [], 0), (44, [9, 5], 0), (4, [0], 0), (40, [9, 6], 0), (61, [0, 4], 0), (0, [], -1), (70, [], 0)],
  [(4, [0], 0), (42, [9, 0, 61, 0, 0], 0), (0, [], 2), (33, [], 0), (50, [], 0), (0, [], 1), (10, [], 0), (51, [], 0), (4, [0], 0), (42, [9, 0, 61, 0, 0], 0), (0, [], 2), (50, [], 0), (0, [], 1), (11, [], 0), (70, [], 0)]]
def cd_M_fault : List (List qm_Ins) := [
  [(2, [1], 0), (61, [1, 1], 0), (4, [0], 0), (40, [9, 6], 0), (63, [3], 0)],
  [(2, [1], 0), (0, [], 1), (60, [1, 2], 0), (4, [0], 0), (40, [9, 7], 0), (63, [3], 0)],
  [(0, [], -1), (64, [3], 0)],
  [(70, [], 0)]]
def cd_M_by : List (List qm_Ins) := [
  [(2, [1], 0), (0, [], -1), (4, [0], 0), (42, [9, 0, 61, 0, 0], 0), (0, [], 2), (50, [], 0), (0, [], 1), (11, [], 0), (80, [57, 3], 0), (61, [1, 1], 0), (0, [], 0), (70, [], 0)],
  [(4, [0], 0), (42, [9, 0, 61, 0, 0], 0), (0, [], 3), (2, [1], 0), (51, [], 0), (0, [], 1), (70, [], 0)]]
def cd_M_laid : List (List qm_Ins) := [
  [(2, [1], 0), (0, [], 0), (4, [0], 0), (42, [9, 0, 61, 0, 0], 0), (0, [], 2), (50, [], 0), (0, [], 1), (11, [], 0), (80, [57, 3], 0), (61, [1, 1], 0), (0, [], -2), (70, [], 0)],
  [(0, [], 0), (5, [2], 0), (64, [2], 0)],
  [(2, [2], 0), (4, [0], 0), (40, [9, 1], 0), (60, [3, 3], 0), (4, [0], 0), (42, [9, 0, 61, 0, 0], 0), (0, [], 120), (2, [2], 0), (10, [], 0), (0, [], 0), (51, [], 0), (8, [2], 1), (63, [2], 0)],
  [(4, [0], 0), (42, [9, 0, 61, 0, 0], 0), (0, [], 7), (0, [], -1), (51, [], 0), (0, [], 0), (5, [2], 0), (64, [4], 0)],
  [(2, [2], 0), (4, [0], 0), (42, [9, 3, 62, 0, 0], 0), (0, [], 720), (2, [1], 0), (12, [], 0), (50, [], 0), (60, [3, 6], 0), (0, [], 720), (2, [1], 0), (12, [], 0), (0, [], 1), (10, [], 0), (0, [], 5), (2, [2], 0), (12, [], 0), (10, [], 0), (5, [3], 0), (4, [0], 0), (42, [9, 3, 62, 0, 0], 0), (2, [3], 0), (50, [], 0), (0, [], 6), (60, [1, 5], 0), (4, [0], 0), (4, [0], 0), (42, [9, 3, 62, 0, 0], 0), (2, [3], 0), (0, [], 4), (10, [], 0), (50, [], 0), (4, [0], 0), (42, [9, 3, 62, 0, 0], 0), (2, [3], 0), (0, [], 1), (10, [], 0), (50, [], 0), (4, [0], 0), (42, [9, 3, 62, 0, 0], 0), (2, [3], 0), (0, [], 2), (10, [], 0), (50, [], 0), (4, [0], 0), (42, [9, 3, 62, 0, 0], 0), (2, [3], 0), (0, [], 3), (10, [], 0), (50, [], 0), (80, [64, 5], 0), (61, [3, 5], 0), (2, [2], 0), (70, [], 0)],
  [(8, [2], 1), (63, [4], 0)],
  [(0, [], -1), (70, [], 0)]]
def cd_M_clip : List (List qm_Ins) := [
  [(3, [0], 0), (1, [], 1000000), (29, [], 0), (61, [5, 1], 0), (1, [], 1000000), (63, [3], 0)],
  [(3, [0], 0), (1, [], -1000000), (29, [], 0), (61, [3, 2], 0), (1, [], -1000000), (63, [3], 0)],
  [(3, [0], 0), (64, [3], 0)],
  [(71, [], 0)]]
def cd_M_two : List (List qm_Ins) := [
  [(2, [0], 0), (65, [10, 1, 2, 3, 10, 4, 7], 3)],
  [(3, [1], 0), (3, [3], 0), (21, [], 0), (80, [114, 1], 0), (71, [], 0)],
  [(3, [1], 0), (3, [3], 0), (22, [], 0), (80, [114, 1], 0), (71, [], 0)],
  [(3, [1], 0), (3, [3], 0), (23, [], 0), (80, [114, 1], 0), (71, [], 0)],
  [(3, [1], 0), (3, [3], 0), (29, [], 0), (61, [3, 5], 0), (3, [1], 0), (63, [6], 0)],
  [(3, [3], 0), (64, [6], 0)],
  [(71, [], 0)],
  [(3, [1], 0), (3, [3], 0), (29, [], 0), (61, [5, 8], 0), (3, [1], 0), (63, [9], 0)],
  [(3, [3], 0), (64, [9], 0)],
  [(71, [], 0)],
  [(3, [3], 0), (1, [], 0), (29, [], 0), (61, [1, 11], 0), (1, [], 0), (63, [12], 0)],
  [(3, [1], 0), (3, [3], 0), (24, [], 0), (80, [114, 1], 0), (64, [12], 0)],
  [(71, [], 0)]]
def cd_M_isAsked : List (List qm_Ins) := [
  [(2, [0], 0), (0, [], 10), (60, [1, 2], 0), (3, [1], 0), (3, [3], 0), (29, [], 0), (61, [3, 1], 0), (0, [], 1), (63, [12], 0)],
  [(0, [], 0), (63, [12], 0)],
  [(2, [0], 0), (0, [], 11), (60, [1, 4], 0), (3, [1], 0), (3, [3], 0), (29, [], 0), (61, [4, 3], 0), (0, [], 1), (63, [12], 0)],
  [(0, [], 0), (63, [12], 0)],
  [(2, [0], 0), (0, [], 12), (60, [1, 6], 0), (3, [1], 0), (3, [3], 0), (29, [], 0), (61, [5, 5], 0), (0, [], 1), (63, [12], 0)],
  [(0, [], 0), (63, [12], 0)],
  [(2, [0], 0), (0, [], 13), (60, [1, 8], 0), (3, [1], 0), (3, [3], 0), (29, [], 0), (61, [2, 7], 0), (0, [], 1), (63, [12], 0)],
  [(0, [], 0), (63, [12], 0)],
  [(2, [0], 0), (0, [], 14), (60, [1, 10], 0), (3, [1], 0), (3, [3], 0), (29, [], 0), (61, [1, 9], 0), (0, [], 1), (63, [12], 0)],
  [(0, [], 0), (63, [12], 0)],
  [(3, [1], 0), (3, [3], 0), (29, [], 0), (61, [0, 11], 0), (0, [], 1), (63, [12], 0)],
  [(0, [], 0), (64, [12], 0)],
  [(70, [], 0)]]
def cd_M_work : List (List qm_Ins) := [
  [(0, [], 720), (4, [0], 0), (42, [9, 0, 61, 0, 0], 0), (0, [], 3), (50, [], 0), (12, [], 0), (0, [], 1), (10, [], 0), (0, [], 5), (2, [1], 0), (12, [], 0), (10, [], 0), (5, [2], 0), (0, [], 720), (4, [0], 0), (42, [9, 0, 61, 0, 0], 0), (0, [], 3), (50, [], 0), (12, [], 0), (0, [], 110), (10, [], 0), (5, [3], 0), (0, [], 0), (5, [4], 0), (0, [], 0), (5, [5], 0), (4, [0], 0), (42, [9, 3, 62, 0, 0], 0), (2, [2], 0), (0, [], 1), (10, [], 0), (50, [], 0), (5, [6], 0), (64, [1], 0)],
  [(2, [6], 0), (4, [0], 0), (42, [9, 3, 62, 0, 0], 0), (2, [2], 0), (0, [], 2), (10, [], 0), (50, [], 0), (60, [3, 17], 0), (4, [0], 0), (42, [9, 3, 62, 0, 0], 0), (2, [3], 0), (0, [], 2), (2, [6], 0), (12, [], 0), (10, [], 0), (50, [], 0), (5, [7], 0), (4, [0], 0), (42, [9, 3, 62, 0, 0], 0), (2, [3], 0), (0, [], 2), (2, [6], 0), (12, [], 0), (10, [], 0), (0, [], 1), (10, [], 0), (50, [], 0), (5, [8], 0), (2, [7], 0), (0, [], 1), (60, [4, 4], 0), (4, [0], 0), (42, [9, 24, 66, 0, 0], 0), (2, [4], 0), (2, [7], 0), (61, [1, 2], 0), (2, [8], 0), (30, [], 0), (63, [3], 0)],
  [(4, [0], 0), (42, [9, 23, 65, 0, 0], 0), (2, [8], 0), (50, [], 0), (30, [], 0), (64, [3], 0)],
  [(53, [], 0), (8, [4], 1), (63, [16], 0)],
  [(2, [7], 0), (0, [], 2), (60, [1, 5], 0), (4, [0], 0), (42, [9, 24, 66, 0, 0], 0), (2, [4], 0), (0, [], 1), (11, [], 0), (4, [0], 0), (42, [9, 24, 66, 0, 0], 0), (2, [4], 0), (0, [], 1), (11, [], 0), (52, [], 0), (25, [], 0), (53, [], 0), (63, [16], 0)],
  [(2, [7], 0), (0, [], 10), (60, [3, 6], 0), (8, [4], -1), (4, [0], 0), (42, [9, 24, 66, 0, 0], 0), (2, [4], 0), (0, [], 1), (11, [], 0), (2, [7], 0), (4, [0], 0), (42, [9, 24, 66, 0, 0], 0), (2, [4], 0), (0, [], 1), (11, [], 0), (52, [], 0), (4, [0], 0), (42, [9, 24, 66, 0, 0], 0), (2, [4], 0), (52, [], 0), (80, [115, 3], 0), (53, [], 0), (63, [16], 0)],
  [(2, [7], 0), (0, [], 20), (60, [3, 7], 0), (8, [4], -2), (4, [0], 0), (42, [9, 25, 67, 0, 0], 0), (2, [5], 0), (2, [7], 0), (4, [0], 0), (42, [9, 24, 66, 0, 0], 0), (2, [4], 0), (52, [], 0), (4, [0], 0), (42, [9, 24, 66, 0, 0], 0), (2, [4], 0), (0, [], 1), (10, [], 0), (52, [], 0), (80, [116, 3], 0), (55, [], 0), (8, [5], 1), (63, [16], 0)],
  [(2, [7], 0), (0, [], 20), (60, [1, 10], 0), (4, [0], 0), (42, [9, 25, 67, 0, 0], 0), (2, [5], 0), (0, [], 1), (11, [], 0), (4, [0], 0), (42, [9, 25, 67, 0, 0], 0), (2, [5], 0), (0, [], 1), (11, [], 0), (54, [], 0), (61, [1, 8], 0), (0, [], 1), (63, [9], 0)],
  [(0, [], 0), (64, [9], 0)],
  [(55, [], 0), (63, [16], 0)],
  [(8, [5], -1), (4, [0], 0), (42, [9, 25, 67, 0, 0], 0), (2, [5], 0), (0, [], 1), (11, [], 0), (2, [7], 0), (0, [], 21), (60, [1, 12], 0), (4, [0], 0), (42, [9, 25, 67, 0, 0], 0), (2, [5], 0), (0, [], 1), (11, [], 0), (54, [], 0), (61, [0, 11], 0), (4, [0], 0), (42, [9, 25, 67, 0, 0], 0), (2, [5], 0), (54, [], 0), (61, [0, 11], 0), (0, [], 1), (63, [15], 0)],
  [(0, [], 0), (63, [15], 0)],
  [(4, [0], 0), (42, [9, 25, 67, 0, 0], 0), (2, [5], 0), (0, [], 1), (11, [], 0), (54, [], 0), (61, [1, 13], 0), (4, [0], 0), (42, [9, 25, 67, 0, 0], 0), (2, [5], 0), (54, [], 0), (61, [0, 14], 0), (64, [13], 0)],
  [(0, [], 1), (63, [15], 0)],
  [(0, [], 0), (64, [15], 0)],
  [(55, [], 0), (64, [16], 0)],
  [(8, [6], 1), (63, [1], 0)],
  [(72, [], 0)]]
def cd_M_clauses : List (List qm_Ins) := [
  [(4, [0], 0), (42, [9, 0, 61, 0, 0], 0), (0, [], 3), (50, [], 0), (61, [3, 1], 0), (0, [], 0), (63, [2], 0)],
  [(4, [0], 0), (42, [9, 3, 62, 0, 0], 0), (0, [], 720), (4, [0], 0), (42, [9, 0, 61, 0, 0], 0), (0, [], 3), (50, [], 0), (12, [], 0), (50, [], 0), (64, [2], 0)],
  [(70, [], 0)]]
def cd_M_clauseOf : List (List qm_Ins) := [
  [(0, [], 0), (5, [2], 0), (64, [1], 0)],
  [(2, [2], 0), (4, [0], 0), (80, [118, 1], 0), (60, [3, 3], 0), (4, [0], 0), (42, [9, 3, 62, 0, 0], 0), (0, [], 720), (4, [0], 0), (42, [9, 0, 61, 0, 0], 0), (0, [], 3), (50, [], 0), (12, [], 0), (0, [], 1), (10, [], 0), (0, [], 5), (2, [2], 0), (12, [], 0), (10, [], 0), (50, [], 0), (2, [1], 0), (60, [1, 2], 0), (2, [2], 0), (70, [], 0)],
  [(8, [2], 1), (63, [1], 0)],
  [(0, [], -1), (70, [], 0)]]
def cd_M_sumOf : List (List qm_Ins) := [
  [(4, [0], 0), (2, [1], 0), (80, [119, 2], 0), (5, [5], 0), (2, [5], 0), (61, [3, 1], 0), (2, [4], 0), (70, [], 0)],
  [(4, [0], 0), (2, [5], 0), (80, [117, 2], 0), (4, [0], 0), (42, [9, 24, 66, 0, 0], 0), (0, [], 0), (52, [], 0), (2, [2], 0), (2, [3], 0), (80, [58, 3], 0), (70, [], 0)]]
def cd_M_besideOf : List (List qm_Ins) := [
  [(2, [1], 0), (61, [5, 1], 0), (4, [0], 0), (2, [1], 0), (0, [], 1), (11, [], 0), (80, [59, 2], 0), (2, [2], 0), (60, [5, 1], 0), (0, [], 1), (63, [2], 0)],
  [(0, [], 0), (64, [2], 0)],
  [(5, [3], 0), (2, [3], 0), (2, [1], 0), (0, [], 1), (10, [], 0), (4, [0], 0), (40, [9, 1], 0), (60, [3, 3], 0), (4, [0], 0), (2, [1], 0), (0, [], 1), (10, [], 0), (80, [59, 2], 0), (2, [2], 0), (60, [5, 3], 0), (0, [], 1), (63, [4], 0)],
  [(0, [], 0), (64, [4], 0)],
  [(10, [], 0), (5, [3], 0), (2, [3], 0), (2, [2], 0), (61, [5, 5], 0), (0, [], 1), (63, [6], 0)],
  [(0, [], 0), (64, [6], 0)],
  [(10, [], 0), (5, [3], 0), (2, [3], 0), (4, [0], 0), (2, [1], 0), (80, [59, 2], 0), (2, [2], 0), (0, [], 1), (10, [], 0), (60, [5, 7], 0), (0, [], 1), (63, [8], 0)],
  [(0, [], 0), (64, [8], 0)],
  [(10, [], 0), (70, [], 0)]]
def cd_M_name : List (List qm_Ins) := [
  [(4, [0], 0), (2, [1], 0), (2, [2], 0), (80, [60, 3], 0), (5, [3], 0), (4, [0], 0), (42, [9, 0, 61, 0, 0], 0), (4, [0], 0), (40, [9, 2], 0), (0, [], 7), (10, [], 0), (50, [], 0), (61, [2, 1], 0), (0, [], 1), (63, [2], 0)],
  [(0, [], 0), (64, [2], 0)],
  [(5, [4], 0), (4, [0], 0), (42, [9, 23, 65, 0, 0], 0), (0, [], 0), (4, [0], 0), (42, [9, 0, 61, 0, 0], 0), (2, [3], 0), (0, [], 2), (10, [], 0), (50, [], 0), (51, [], 0), (4, [0], 0), (42, [9, 23, 65, 0, 0], 0), (0, [], 1), (4, [0], 0), (42, [9, 0, 61, 0, 0], 0), (2, [3], 0), (0, [], 1), (10, [], 0), (50, [], 0), (51, [], 0), (4, [0], 0), (42, [9, 23, 65, 0, 0], 0), (0, [], 2), (4, [0], 0), (42, [9, 0, 61, 0, 0], 0), (2, [3], 0), (50, [], 0), (51, [], 0), (4, [0], 0), (42, [9, 23, 65, 0, 0], 0), (0, [], 3), (4, [0], 0), (42, [9, 0, 61, 0, 0], 0), (2, [3], 0), (0, [], 3), (10, [], 0), (50, [], 0), (51, [], 0), (4, [0], 0), (42, [9, 23, 65, 0, 0], 0), (0, [], 4), (2, [4], 0), (61, [0, 3], 0), (0, [], 0), (63, [4], 0)],
  [(2, [2], 0), (64, [4], 0)],
  [(51, [], 0), (4, [0], 0), (42, [9, 23, 65, 0, 0], 0), (0, [], 5), (2, [4], 0), (61, [1, 5], 0), (2, [2], 0), (0, [], 1), (10, [], 0), (4, [0], 0), (2, [1], 0), (80, [59, 2], 0), (60, [1, 6], 0), (64, [5], 0)],
  [(0, [], 1), (63, [7], 0)],
  [(0, [], 0), (64, [7], 0)],
  [(51, [], 0), (4, [0], 0), (42, [9, 23, 65, 0, 0], 0), (0, [], 6), (2, [4], 0), (61, [0, 8], 0), (0, [], 4), (63, [9], 0)],
  [(4, [0], 0), (2, [1], 0), (2, [2], 0), (80, [121, 3], 0), (64, [9], 0)],
  [(51, [], 0), (4, [0], 0), (42, [9, 23, 65, 0, 0], 0), (0, [], 7), (2, [1], 0), (4, [0], 0), (42, [9, 0, 61, 0, 0], 0), (4, [0], 0), (40, [9, 2], 0), (0, [], 6), (10, [], 0), (50, [], 0), (61, [1, 10], 0), (0, [], 0), (63, [11], 0)],
  [(4, [0], 0), (40, [9, 1], 0), (0, [], 1), (11, [], 0), (64, [11], 0)],
  [(60, [1, 12], 0), (0, [], 1), (63, [13], 0)],
  [(0, [], 0), (64, [13], 0)],
  [(51, [], 0), (4, [0], 0), (42, [9, 23, 65, 0, 0], 0), (0, [], 12), (4, [0], 0), (42, [9, 0, 61, 0, 0], 0), (4, [0], 0), (40, [9, 2], 0), (0, [], 0), (10, [], 0), (50, [], 0), (51, [], 0), (72, [], 0)]]
def cd_M_thickOf : List (List qm_Ins) := [
  [(4, [0], 0), (2, [1], 0), (2, [2], 0), (80, [122, 3], 0), (4, [0], 0), (42, [9, 23, 65, 0, 0], 0), (0, [], 0), (50, [], 0), (5, [3], 0), (4, [0], 0), (42, [9, 23, 65, 0, 0], 0), (0, [], 1), (50, [], 0), (5, [4], 0), (4, [0], 0), (0, [], 1), (0, [], 1), (0, [], 999), (0, [], 10), (2, [4], 0), (12, [], 0), (2, [3], 0), (0, [], 300), (60, [3, 1], 0), (2, [4], 0), (0, [], 300), (2, [3], 0), (11, [], 0), (12, [], 0), (0, [], 100), (13, [], 0), (63, [2], 0)],
  [(0, [], 0), (64, [2], 0)],
  [(11, [], 0), (80, [120, 5], 0), (70, [], 0)]]
def cd_M_heatOf : List (List qm_Ins) := [
  [(4, [0], 0), (2, [1], 0), (2, [2], 0), (80, [122, 3], 0), (4, [0], 0), (0, [], 4), (0, [], 0), (0, [], 9999), (4, [0], 0), (42, [9, 23, 65, 0, 0], 0), (0, [], 1), (50, [], 0), (0, [], 2500), (4, [0], 0), (42, [9, 23, 65, 0, 0], 0), (0, [], 0), (50, [], 0), (11, [], 0), (12, [], 0), (0, [], 100), (13, [], 0), (80, [120, 5], 0), (70, [], 0)]]
def cd_M_isDry : List (List qm_Ins) := [
  [(4, [0], 0), (42, [9, 0, 61, 0, 0], 0), (4, [0], 0), (2, [1], 0), (2, [2], 0), (80, [60, 3], 0), (0, [], 2), (10, [], 0), (50, [], 0), (0, [], 200), (60, [4, 1], 0), (0, [], 1), (63, [2], 0)],
  [(0, [], 0), (64, [2], 0)],
  [(70, [], 0)]]
def cd_M_heightOf : List (List qm_Ins) := [
  [(0, [], 0), (5, [2], 0), (0, [], 0), (5, [3], 0), (64, [1], 0)],
  [(2, [3], 0), (4, [0], 0), (2, [1], 0), (80, [59, 2], 0), (60, [3, 2], 0), (2, [2], 0), (4, [0], 0), (2, [1], 0), (2, [3], 0), (80, [123, 3], 0), (10, [], 0), (5, [2], 0), (8, [3], 1), (63, [1], 0)],
  [(2, [2], 0), (70, [], 0)]]
def cd_M_leanOf : List (List qm_Ins) := [
  [(4, [0], 0), (4, [0], 0), (40, [9, 1], 0), (0, [], 1), (11, [], 0), (80, [126, 2], 0), (4, [0], 0), (0, [], 0), (80, [126, 2], 0), (11, [], 0), (70, [], 0)]]
def cd_M_standOf : List (List qm_Ins) := [
  [(0, [], 0), (5, [1], 0), (0, [], 0), (5, [2], 0), (64, [1], 0)],
  [(2, [2], 0), (4, [0], 0), (40, [9, 1], 0), (60, [3, 4], 0), (4, [0], 0), (2, [2], 0), (80, [59, 2], 0), (2, [1], 0), (60, [5, 2], 0), (4, [0], 0), (2, [2], 0), (80, [59, 2], 0), (63, [3], 0)],
  [(2, [1], 0), (64, [3], 0)],
  [(5, [1], 0), (8, [2], 1), (63, [1], 0)],
  [(4, [0], 0), (42, [9, 23, 65, 0, 0], 0), (0, [], 12), (4, [0], 0), (42, [9, 0, 61, 0, 0], 0), (4, [0], 0), (40, [9, 2], 0), (0, [], 0), (10, [], 0), (50, [], 0), (51, [], 0), (4, [0], 0), (42, [9, 23, 65, 0, 0], 0), (0, [], 13), (4, [0], 0), (40, [9, 1], 0), (51, [], 0), (4, [0], 0), (42, [9, 23, 65, 0, 0], 0), (0, [], 14), (2, [1], 0), (51, [], 0), (4, [0], 0), (42, [9, 23, 65, 0, 0], 0), (0, [], 15), (4, [0], 0), (42, [9, 0, 61, 0, 0], 0), (4, [0], 0), (40, [9, 2], 0), (0, [], 4), (10, [], 0), (50, [], 0), (51, [], 0), (4, [0], 0), (42, [9, 23, 65, 0, 0], 0), (0, [], 16), (4, [0], 0), (42, [9, 0, 61, 0, 0], 0), (4, [0], 0), (40, [9, 2], 0), (0, [], 5), (10, [], 0), (50, [], 0), (51, [], 0), (4, [0], 0), (0, [], 2), (0, [], 0), (0, [], 9999), (0, [], 10), (4, [0], 0), (40, [9, 1], 0), (12, [], 0), (0, [], 20), (4, [0], 0), (42, [9, 23, 65, 0, 0], 0), (0, [], 15), (50, [], 0), (12, [], 0), (10, [], 0), (0, [], 15), (4, [0], 0), (42, [9, 23, 65, 0, 0], 0), (0, [], 16), (50, [], 0), (12, [], 0), (10, [], 0), (80, [120, 5], 0), (70, [], 0)]]
def cd_M_dryMany : List (List qm_Ins) := [
  [(0, [], 0), (5, [1], 0), (0, [], 0), (5, [2], 0), (64, [1], 0)],
  [(2, [2], 0), (4, [0], 0), (40, [9, 1], 0), (60, [3, 6], 0), (0, [], 0), (5, [3], 0), (64, [2], 0)],
  [(2, [3], 0), (4, [0], 0), (2, [2], 0), (80, [59, 2], 0), (60, [3, 5], 0), (2, [1], 0), (4, [0], 0), (2, [2], 0), (2, [3], 0), (80, [125, 3], 0), (61, [0, 3], 0), (0, [], 1), (63, [4], 0)],
  [(0, [], 0), (64, [4], 0)],
  [(10, [], 0), (5, [1], 0), (8, [3], 1), (63, [2], 0)],
  [(8, [2], 1), (63, [1], 0)],
  [(2, [1], 0), (70, [], 0)]]
def cd_M_isBeetle : List (List qm_Ins) := [
  [(4, [0], 0), (2, [1], 0), (2, [2], 0), (80, [122, 3], 0), (0, [], 0), (5, [3], 0), (64, [1], 0)],
  [(2, [3], 0), (4, [0], 0), (80, [118, 1], 0), (60, [3, 4], 0), (4, [0], 0), (42, [9, 3, 62, 0, 0], 0), (0, [], 720), (4, [0], 0), (42, [9, 0, 61, 0, 0], 0), (0, [], 3), (50, [], 0), (12, [], 0), (0, [], 1), (10, [], 0), (0, [], 5), (2, [3], 0), (12, [], 0), (10, [], 0), (50, [], 0), (0, [], 5), (60, [0, 2], 0), (63, [3], 0)],
  [(4, [0], 0), (2, [3], 0), (80, [117, 2], 0), (4, [0], 0), (42, [9, 25, 67, 0, 0], 0), (0, [], 0), (54, [], 0), (61, [0, 3], 0), (0, [], 1), (70, [], 0)],
  [(8, [3], 1), (63, [1], 0)],
  [(0, [], 0), (70, [], 0)]]
def cd_M_of : List (List qm_Ins) := [
  [(4, [0], 0), (2, [1], 0), (2, [2], 0), (80, [62, 3], 0), (61, [1, 1], 0), (0, [], -1), (70, [], 0)],
  [(2, [3], 0), (0, [], 0), (0, [], 5), (80, [57, 3], 0), (61, [0, 2], 0), (4, [0], 0), (42, [9, 0, 61, 0, 0], 0), (4, [0], 0), (2, [1], 0), (2, [2], 0), (80, [60, 3], 0), (2, [3], 0), (10, [], 0), (50, [], 0), (70, [], 0)],
  [(2, [3], 0), (0, [], 6), (60, [1, 3], 0), (4, [0], 0), (2, [1], 0), (2, [2], 0), (80, [123, 3], 0), (70, [], 0)],
  [(2, [3], 0), (0, [], 7), (60, [1, 4], 0), (4, [0], 0), (2, [1], 0), (2, [2], 0), (80, [124, 3], 0), (70, [], 0)],
  [(2, [3], 0), (0, [], 8), (60, [1, 6], 0), (4, [0], 0), (2, [1], 0), (2, [2], 0), (80, [125, 3], 0), (61, [0, 5], 0), (0, [], 1), (63, [7], 0)],
  [(0, [], 0), (63, [7], 0)],
  [(0, [], -1), (64, [7], 0)],
  [(70, [], 0)]]
def cd_M_airIn : List (List qm_Ins) := [
  [(1, [], 0), (6, [1], 0), (0, [], 0), (5, [3], 0), (0, [], 0), (5, [4], 0), (0, [], 0), (5, [5], 0), (64, [1], 0)],
  [(2, [5], 0), (4, [0], 0), (40, [9, 1], 0), (60, [3, 8], 0), (0, [], 0), (5, [6], 0), (0, [], 0), (5, [7], 0), (64, [2], 0)],
  [(2, [7], 0), (4, [0], 0), (2, [5], 0), (80, [59, 2], 0), (60, [3, 5], 0), (4, [0], 0), (2, [5], 0), (2, [7], 0), (80, [123, 3], 0), (5, [8], 0), (3, [1], 0), (2, [8], 0), (30, [], 0), (2, [8], 0), (30, [], 0), (23, [], 0), (21, [], 0), (6, [1], 0), (2, [8], 0), (2, [6], 0), (60, [5, 3], 0), (2, [8], 0), (63, [4], 0)],
  [(2, [6], 0), (64, [4], 0)],
  [(5, [6], 0), (8, [7], 1), (63, [2], 0)],
  [(2, [3], 0), (2, [6], 0), (10, [], 0), (5, [3], 0), (4, [0], 0), (2, [5], 0), (80, [126, 2], 0), (5, [7], 0), (2, [7], 0), (2, [4], 0), (60, [5, 6], 0), (2, [7], 0), (63, [7], 0)],
  [(2, [4], 0), (64, [7], 0)],
  [(5, [4], 0), (8, [5], 1), (63, [1], 0)],
  [(2, [4], 0), (61, [1, 9], 0), (0, [], 0), (63, [10], 0)],
  [(1, [], 1000), (1, [], 785), (3, [1], 0), (23, [], 0), (2, [3], 0), (30, [], 0), (2, [4], 0), (30, [], 0), (23, [], 0), (24, [], 0), (22, [], 0), (31, [], 0), (64, [10], 0)],
  [(70, [], 0)]]
def cd_M_beetles : List (List qm_Ins) := [
  [(0, [], 0), (5, [1], 0), (0, [], 0), (5, [2], 0), (64, [1], 0)],
  [(2, [2], 0), (4, [0], 0), (40, [9, 1], 0), (60, [3, 6], 0), (0, [], 0), (5, [3], 0), (64, [2], 0)],
  [(2, [3], 0), (4, [0], 0), (2, [2], 0), (80, [59, 2], 0), (60, [3, 5], 0), (2, [1], 0), (4, [0], 0), (2, [2], 0), (2, [3], 0), (80, [130, 3], 0), (61, [0, 3], 0), (0, [], 1), (63, [4], 0)],
  [(0, [], 0), (64, [4], 0)],
  [(10, [], 0), (5, [1], 0), (8, [3], 1), (63, [2], 0)],
  [(8, [2], 1), (63, [1], 0)],
  [(2, [1], 0), (70, [], 0)]]
def cd_M_stack : List (List qm_Ins) := [
  [(2, [1], 0), (0, [], 10), (0, [], 9), (4, [0], 0), (40, [9, 1], 0), (10, [], 0), (80, [57, 3], 0), (61, [0, 1], 0), (4, [0], 0), (2, [1], 0), (0, [], 10), (11, [], 0), (80, [126, 2], 0), (70, [], 0)],
  [(2, [1], 0), (0, [], 20), (0, [], 19), (4, [0], 0), (40, [9, 1], 0), (10, [], 0), (80, [57, 3], 0), (61, [0, 2], 0), (4, [0], 0), (2, [1], 0), (0, [], 20), (11, [], 0), (80, [59, 2], 0), (70, [], 0)],
  [(2, [1], 0), (65, [10, 3, 4, 5, 6, 7, 8, 9], 0)],
  [(4, [0], 0), (80, [127, 1], 0), (70, [], 0)],
  [(4, [0], 0), (80, [128, 1], 0), (70, [], 0)],
  [(4, [0], 0), (42, [9, 0, 61, 0, 0], 0), (0, [], 7), (50, [], 0), (70, [], 0)],
  [(4, [0], 0), (80, [63, 1], 0), (70, [], 0)],
  [(4, [0], 0), (80, [129, 1], 0), (70, [], 0)],
  [(4, [0], 0), (80, [132, 1], 0), (70, [], 0)],
  [(4, [0], 0), (80, [133, 1], 0), (70, [], 0)],
  [(0, [], -100000), (70, [], 0)]]
def cd_M_driedOf : List (List qm_Ins) := [
  [(4, [0], 0), (2, [1], 0), (2, [2], 0), (80, [122, 3], 0), (0, [], 0), (5, [4], 0), (64, [1], 0)],
  [(2, [4], 0), (0, [], 4), (60, [3, 2], 0), (4, [0], 0), (42, [9, 23, 65, 0, 0], 0), (0, [], 8), (2, [4], 0), (10, [], 0), (4, [0], 0), (42, [9, 0, 61, 0, 0], 0), (2, [3], 0), (2, [4], 0), (10, [], 0), (50, [], 0), (51, [], 0), (8, [4], 1), (63, [1], 0)],
  [(4, [0], 0), (0, [], 0), (80, [119, 2], 0), (5, [4], 0), (2, [4], 0), (61, [2, 3], 0), (4, [0], 0), (2, [4], 0), (80, [117, 2], 0), (4, [0], 0), (42, [9, 23, 65, 0, 0], 0), (0, [], 0), (50, [], 0), (30, [], 0), (4, [0], 0), (42, [9, 24, 66, 0, 0], 0), (0, [], 0), (52, [], 0), (22, [], 0), (0, [], 0), (0, [], 2000), (80, [58, 3], 0), (70, [], 0)],
  [(4, [0], 0), (42, [9, 23, 65, 0, 0], 0), (0, [], 0), (50, [], 0), (0, [], 10), (4, [0], 0), (42, [9, 23, 65, 0, 0], 0), (0, [], 11), (50, [], 0), (12, [], 0), (11, [], 0), (0, [], 2), (4, [0], 0), (42, [9, 23, 65, 0, 0], 0), (0, [], 8), (50, [], 0), (10, [], 0), (4, [0], 0), (42, [9, 23, 65, 0, 0], 0), (0, [], 9), (50, [], 0), (10, [], 0), (4, [0], 0), (42, [9, 23, 65, 0, 0], 0), (0, [], 6), (50, [], 0), (11, [], 0), (12, [], 0), (0, [], 40), (13, [], 0), (5, [5], 0), (4, [0], 0), (42, [9, 23, 65, 0, 0], 0), (0, [], 5), (50, [], 0), (0, [], 1), (60, [1, 4], 0), (4, [0], 0), (42, [9, 23, 65, 0, 0], 0), (0, [], 3), (50, [], 0), (61, [1, 4], 0), (0, [], 10), (4, [0], 0), (42, [9, 23, 65, 0, 0], 0), (0, [], 10), (50, [], 0), (12, [], 0), (63, [5], 0)],
  [(0, [], 0), (64, [5], 0)],
  [(5, [6], 0), (4, [0], 0), (42, [9, 23, 65, 0, 0], 0), (0, [], 0), (50, [], 0), (2, [5], 0), (11, [], 0), (2, [6], 0), (10, [], 0), (30, [], 0), (0, [], 0), (0, [], 2000), (80, [58, 3], 0), (70, [], 0)]]
def cd_M_goBy : List (List qm_Ins) := [
  [(0, [], 20), (0, [], 4), (2, [1], 0), (12, [], 0), (10, [], 0), (5, [2], 0), (0, [], 0), (5, [3], 0), (64, [1], 0)],
  [(2, [3], 0), (4, [0], 0), (40, [9, 1], 0), (60, [3, 4], 0), (0, [], 0), (5, [4], 0), (64, [2], 0)],
  [(2, [4], 0), (4, [0], 0), (2, [3], 0), (80, [59, 2], 0), (60, [3, 3], 0), (4, [0], 0), (42, [9, 26, 68, 0, 0], 0), (0, [], 8), (2, [3], 0), (12, [], 0), (2, [4], 0), (10, [], 0), (4, [0], 0), (2, [3], 0), (2, [4], 0), (2, [2], 0), (80, [135, 4], 0), (51, [], 0), (8, [4], 1), (63, [2], 0)],
  [(8, [3], 1), (63, [1], 0)],
  [(0, [], 0), (5, [3], 0), (64, [5], 0)],
  [(2, [3], 0), (4, [0], 0), (40, [9, 1], 0), (60, [3, 8], 0), (0, [], 0), (5, [4], 0), (64, [6], 0)],
  [(2, [4], 0), (4, [0], 0), (2, [3], 0), (80, [59, 2], 0), (60, [3, 7], 0), (4, [0], 0), (42, [9, 0, 61, 0, 0], 0), (4, [0], 0), (2, [3], 0), (2, [4], 0), (80, [60, 3], 0), (0, [], 2), (10, [], 0), (4, [0], 0), (42, [9, 26, 68, 0, 0], 0), (0, [], 8), (2, [3], 0), (12, [], 0), (2, [4], 0), (10, [], 0), (50, [], 0), (51, [], 0), (8, [4], 1), (63, [6], 0)],
  [(8, [3], 1), (63, [5], 0)],
  [(4, [0], 0), (42, [9, 0, 61, 0, 0], 0), (4, [0], 0), (40, [9, 2], 0), (0, [], 0), (10, [], 0), (33, [], 0), (50, [], 0), (0, [], 1), (10, [], 0), (51, [], 0), (4, [0], 0), (42, [9, 0, 61, 0, 0], 0), (4, [0], 0), (40, [9, 2], 0), (0, [], 7), (10, [], 0), (50, [], 0), (61, [3, 9], 0), (4, [0], 0), (40, [9, 27], 0), (61, [0, 10], 0), (64, [9], 0)],
  [(72, [], 0)],
  [(4, [0], 0), (80, [127, 1], 0), (5, [3], 0), (4, [0], 0), (80, [128, 1], 0), (5, [4], 0), (2, [3], 0), (2, [4], 0), (60, [4, 11], 0), (2, [3], 0), (2, [4], 0), (15, [], 0), (60, [3, 12], 0), (64, [11], 0)],
  [(4, [0], 0), (42, [9, 0, 61, 0, 0], 0), (4, [0], 0), (40, [9, 2], 0), (0, [], 7), (10, [], 0), (4, [0], 0), (42, [9, 0, 61, 0, 0], 0), (4, [0], 0), (40, [9, 2], 0), (0, [], 0), (10, [], 0), (50, [], 0), (51, [], 0), (64, [12], 0)],
  [(72, [], 0)]]
def cd_M_week : List (List qm_Ins) := [
  [(4, [0], 0), (2, [1], 0), (80, [71, 2], 0), (61, [0, 1], 0), (4, [0], 0), (42, [9, 0, 61, 0, 0], 0), (0, [], 0), (50, [], 0), (0, [], 399), (60, [1, 2], 0), (64, [1], 0)],
  [(0, [], -1), (70, [], 0)],
  [(4, [0], 0), (2, [1], 0), (80, [136, 2], 0), (4, [0], 0), (42, [9, 0, 61, 0, 0], 0), (0, [], 0), (50, [], 0), (70, [], 0)]]
def cd_M_takeOff : List (List qm_Ins) := [
  [(2, [2], 0), (5, [3], 0), (64, [1], 0)],
  [(2, [3], 0), (0, [], 1), (10, [], 0), (4, [0], 0), (2, [1], 0), (80, [59, 2], 0), (60, [3, 4], 0), (0, [], 0), (5, [4], 0), (64, [2], 0)],
  [(2, [4], 0), (0, [], 6), (60, [3, 3], 0), (4, [0], 0), (42, [9, 0, 61, 0, 0], 0), (4, [0], 0), (2, [1], 0), (2, [3], 0), (80, [60, 3], 0), (2, [4], 0), (10, [], 0), (4, [0], 0), (42, [9, 0, 61, 0, 0], 0), (4, [0], 0), (2, [1], 0), (2, [3], 0), (0, [], 1), (10, [], 0), (80, [60, 3], 0), (2, [4], 0), (10, [], 0), (50, [], 0), (51, [], 0), (8, [4], 1), (63, [2], 0)],
  [(8, [3], 1), (63, [1], 0)],
  [(4, [0], 0), (42, [9, 0, 61, 0, 0], 0), (4, [0], 0), (40, [9, 2], 0), (0, [], 120), (10, [], 0), (2, [1], 0), (10, [], 0), (33, [], 0), (50, [], 0), (0, [], 1), (11, [], 0), (51, [], 0), (72, [], 0)]]
def cd_M_takeOne : List (List qm_Ins) := [
  [(0, [], -1), (5, [1], 0), (0, [], 0), (5, [2], 0), (1, [], 0), (6, [3], 0), (0, [], 0), (5, [5], 0), (64, [1], 0)],
  [(2, [5], 0), (4, [0], 0), (40, [9, 1], 0), (60, [3, 9], 0), (4, [0], 0), (42, [9, 0, 61, 0, 0], 0), (4, [0], 0), (40, [9, 2], 0), (0, [], 7), (10, [], 0), (50, [], 0), (61, [2, 2], 0), (0, [], 0), (63, [3], 0)],
  [(4, [0], 0), (2, [5], 0), (80, [59, 2], 0), (0, [], 1), (11, [], 0), (64, [3], 0)],
  [(5, [6], 0), (64, [4], 0)],
  [(2, [6], 0), (61, [2, 8], 0), (2, [6], 0), (4, [0], 0), (2, [5], 0), (80, [59, 2], 0), (60, [3, 8], 0), (4, [0], 0), (2, [5], 0), (2, [6], 0), (80, [122, 3], 0), (4, [0], 0), (42, [9, 23, 65, 0, 0], 0), (0, [], 0), (50, [], 0), (15, [], 0), (30, [], 0), (6, [7], 0), (4, [0], 0), (0, [], 3), (80, [119, 2], 0), (5, [9], 0), (2, [9], 0), (61, [2, 5], 0), (4, [0], 0), (2, [9], 0), (80, [117, 2], 0), (4, [0], 0), (42, [9, 24, 66, 0, 0], 0), (0, [], 0), (52, [], 0), (6, [7], 0), (64, [5], 0)],
  [(2, [1], 0), (61, [2, 6], 0), (3, [7], 0), (3, [3], 0), (29, [], 0), (61, [4, 6], 0), (63, [7], 0)],
  [(2, [5], 0), (5, [1], 0), (2, [6], 0), (5, [2], 0), (3, [7], 0), (6, [3], 0), (64, [7], 0)],
  [(8, [6], 1), (63, [4], 0)],
  [(8, [5], 1), (63, [1], 0)],
  [(4, [0], 0), (2, [1], 0), (2, [2], 0), (80, [124, 3], 0), (5, [5], 0), (4, [0], 0), (2, [1], 0), (2, [2], 0), (80, [138, 3], 0), (2, [5], 0), (70, [], 0)]]
def cd_M_take : List (List qm_Ins) := [
  [(2, [1], 0), (0, [], 1), (0, [], 48), (80, [57, 3], 0), (61, [0, 1], 0), (2, [1], 0), (4, [0], 0), (80, [63, 1], 0), (60, [5, 2], 0), (64, [1], 0)],
  [(0, [], -1), (70, [], 0)],
  [(0, [], 0), (5, [2], 0), (0, [], 0), (5, [3], 0), (64, [3], 0)],
  [(2, [3], 0), (2, [1], 0), (60, [3, 4], 0), (2, [2], 0), (4, [0], 0), (80, [139, 1], 0), (10, [], 0), (5, [2], 0), (8, [3], 1), (63, [3], 0)],
  [(2, [2], 0), (70, [], 0)]]
def cd_M_tries : List (List qm_Ins) := [
  [(4, [0], 0), (0, [], 420), (2, [1], 0), (12, [], 0), (44, [9, 2], 0), (72, [], 0)]]
def cd_M_isTried : List (List qm_Ins) := [
  [(2, [1], 0), (0, [], 0), (2, [2], 0), (80, [57, 3], 0), (61, [0, 2], 0), (2, [1], 0), (61, [0, 1], 0), (4, [0], 0), (42, [9, 0, 61, 0, 0], 0), (0, [], 1), (50, [], 0), (61, [5, 2], 0), (64, [1], 0)],
  [(4, [0], 0), (42, [9, 0, 61, 0, 0], 0), (0, [], 0), (50, [], 0), (2, [1], 0), (10, [], 0), (0, [], 399), (60, [4, 2], 0), (0, [], 1), (63, [3], 0)],
  [(0, [], 0), (64, [3], 0)],
  [(70, [], 0)]]
def cd_M_keepOrder : List (List qm_Ins) := [
  [(4, [0], 0), (40, [9, 31], 0), (61, [2, 1], 0), (2, [2], 0), (4, [0], 0), (40, [9, 31], 0), (60, [4, 1], 0), (72, [], 0)],
  [(4, [0], 0), (2, [2], 0), (44, [9, 31], 0), (0, [], 0), (5, [3], 0), (64, [2], 0)],
  [(2, [3], 0), (0, [], 5), (60, [3, 5], 0), (4, [0], 0), (42, [9, 30, 71, 0, 0], 0), (2, [3], 0), (2, [3], 0), (2, [1], 0), (60, [3, 3], 0), (4, [0], 0), (42, [9, 28, 69, 0, 0], 0), (2, [3], 0), (50, [], 0), (63, [4], 0)],
  [(0, [], -1), (64, [4], 0)],
  [(51, [], 0), (8, [3], 1), (63, [2], 0)],
  [(72, [], 0)]]
def cd_M_choosesNext : List (List qm_Ins) := [
  [(4, [0], 0), (0, [], 2), (2, [1], 0), (10, [], 0), (80, [141, 2], 0), (4, [0], 0), (42, [9, 28, 69, 0, 0], 0), (2, [1], 0), (50, [], 0), (0, [], 1), (10, [], 0), (5, [2], 0), (64, [1], 0)],
  [(2, [2], 0), (4, [0], 0), (40, [9, 1], 0), (60, [3, 2], 0), (4, [0], 0), (2, [2], 0), (80, [59, 2], 0), (61, [1, 2], 0), (8, [2], 1), (63, [1], 0)],
  [(4, [0], 0), (42, [9, 28, 69, 0, 0], 0), (2, [1], 0), (2, [2], 0), (51, [], 0), (2, [2], 0), (4, [0], 0), (40, [9, 1], 0), (60, [3, 3], 0), (0, [], 1), (63, [4], 0)],
  [(0, [], 0), (64, [4], 0)],
  [(70, [], 0)]]
def cd_M_findOrder : List (List qm_Ins) := [
  [(4, [0], 0), (0, [], -1), (44, [9, 31], 0), (4, [0], 0), (0, [], 0), (0, [], 2), (80, [56, 3], 0), (4, [0], 0), (42, [9, 29, 70, 0, 0], 0), (0, [], 0), (0, [], 0), (51, [], 0), (0, [], 0), (5, [2], 0), (4, [0], 0), (42, [9, 28, 69, 0, 0], 0), (0, [], 0), (0, [], -1), (51, [], 0), (64, [1], 0)],
  [(2, [2], 0), (61, [2, 7], 0), (4, [0], 0), (42, [9, 28, 69, 0, 0], 0), (2, [2], 0), (50, [], 0), (0, [], -1), (60, [1, 2], 0), (0, [], 1), (63, [3], 0)],
  [(0, [], 0), (64, [3], 0)],
  [(5, [3], 0), (4, [0], 0), (2, [2], 0), (80, [144, 2], 0), (61, [1, 5], 0), (2, [3], 0), (61, [0, 4], 0), (4, [0], 0), (2, [2], 0), (4, [0], 0), (42, [9, 29, 70, 0, 0], 0), (2, [2], 0), (50, [], 0), (80, [143, 3], 0), (64, [4], 0)],
  [(8, [2], -1), (63, [1], 0)],
  [(4, [0], 0), (42, [9, 29, 70, 0, 0], 0), (2, [2], 0), (0, [], 1), (10, [], 0), (4, [0], 0), (42, [9, 29, 70, 0, 0], 0), (2, [2], 0), (50, [], 0), (4, [0], 0), (4, [0], 0), (42, [9, 28, 69, 0, 0], 0), (2, [2], 0), (50, [], 0), (4, [0], 0), (4, [0], 0), (42, [9, 28, 69, 0, 0], 0), (2, [2], 0), (50, [], 0), (80, [59, 2], 0), (0, [], 1), (11, [], 0), (80, [124, 3], 0), (10, [], 0), (51, [], 0), (2, [2], 0), (0, [], 1), (10, [], 0), (2, [1], 0), (60, [1, 6], 0), (4, [0], 0), (2, [1], 0), (4, [0], 0), (42, [9, 29, 70, 0, 0], 0), (2, [1], 0), (50, [], 0), (80, [143, 3], 0), (63, [1], 0)],
  [(4, [0], 0), (0, [], 2), (2, [2], 0), (10, [], 0), (0, [], 2), (2, [2], 0), (10, [], 0), (0, [], 1), (10, [], 0), (80, [56, 3], 0), (4, [0], 0), (0, [], 2), (2, [2], 0), (10, [], 0), (0, [], 1), (10, [], 0), (80, [141, 2], 0), (4, [0], 0), (42, [9, 0, 61, 0, 0], 0), (4, [0], 0), (40, [9, 2], 0), (0, [], 120), (10, [], 0), (4, [0], 0), (42, [9, 28, 69, 0, 0], 0), (2, [2], 0), (50, [], 0), (10, [], 0), (33, [], 0), (50, [], 0), (0, [], 1), (11, [], 0), (51, [], 0), (4, [0], 0), (4, [0], 0), (42, [9, 0, 61, 0, 0], 0), (0, [], 70), (2, [2], 0), (10, [], 0), (50, [], 0), (80, [136, 2], 0), (8, [2], 1), (4, [0], 0), (42, [9, 28, 69, 0, 0], 0), (2, [2], 0), (0, [], -1), (51, [], 0), (63, [1], 0)],
  [(4, [0], 0), (0, [], 0), (80, [141, 2], 0), (72, [], 0)]]
def cd_M_order : List (List qm_Ins) := [
  [(2, [1], 0), (0, [], 1), (0, [], 5), (80, [57, 3], 0), (61, [0, 1], 0), (4, [0], 0), (2, [1], 0), (0, [], 5), (80, [142, 3], 0), (61, [0, 1], 0), (2, [2], 0), (61, [0, 2], 0), (2, [2], 0), (0, [], 10), (0, [], 9), (2, [1], 0), (10, [], 0), (80, [57, 3], 0), (61, [1, 2], 0), (64, [1], 0)],
  [(0, [], -1), (70, [], 0)],
  [(4, [0], 0), (2, [1], 0), (80, [145, 2], 0), (2, [2], 0), (61, [1, 3], 0), (4, [0], 0), (40, [9, 31], 0), (63, [4], 0)],
  [(4, [0], 0), (42, [9, 30, 71, 0, 0], 0), (2, [2], 0), (0, [], 10), (11, [], 0), (50, [], 0), (64, [4], 0)],
  [(70, [], 0)]]
def cd_M_goOn : List (List qm_Ins) := [
  [(4, [0], 0), (42, [9, 0, 61, 0, 0], 0), (4, [0], 0), (40, [9, 2], 0), (0, [], 7), (10, [], 0), (50, [], 0), (61, [2, 1], 0), (0, [], 0), (63, [2], 0)],
  [(2, [1], 0), (0, [], 1), (10, [], 0), (64, [2], 0)],
  [(5, [2], 0), (0, [], 0), (5, [3], 0), (64, [3], 0)],
  [(2, [3], 0), (2, [1], 0), (60, [3, 5], 0), (4, [0], 0), (4, [0], 0), (42, [9, 0, 61, 0, 0], 0), (0, [], 70), (2, [3], 0), (10, [], 0), (50, [], 0), (80, [136, 2], 0), (4, [0], 0), (42, [9, 0, 61, 0, 0], 0), (4, [0], 0), (40, [9, 2], 0), (0, [], 7), (10, [], 0), (50, [], 0), (61, [2, 4], 0), (2, [2], 0), (2, [1], 0), (60, [5, 4], 0), (2, [3], 0), (0, [], 1), (10, [], 0), (5, [2], 0), (64, [4], 0)],
  [(8, [3], 1), (63, [3], 0)],
  [(2, [2], 0), (70, [], 0)]]
def cd_M_tryWays : List (List qm_Ins) := [
  [(0, [], 0), (5, [2], 0), (64, [1], 0)],
  [(2, [2], 0), (0, [], 8), (60, [3, 8], 0), (4, [0], 0), (0, [], 0), (0, [], 2), (80, [56, 3], 0), (4, [0], 0), (0, [], 2), (80, [141, 2], 0), (0, [], 0), (5, [3], 0), (64, [2], 0)],
  [(2, [3], 0), (4, [0], 0), (40, [9, 1], 0), (60, [3, 7], 0), (0, [], 0), (5, [4], 0), (64, [3], 0)],
  [(2, [4], 0), (4, [0], 0), (2, [3], 0), (80, [59, 2], 0), (60, [3, 6], 0), (4, [0], 0), (42, [9, 0, 61, 0, 0], 0), (4, [0], 0), (2, [3], 0), (2, [4], 0), (80, [60, 3], 0), (0, [], 3), (10, [], 0), (2, [2], 0), (0, [], 2), (14, [], 0), (61, [1, 4], 0), (0, [], 1), (63, [5], 0)],
  [(0, [], 0), (64, [5], 0)],
  [(51, [], 0), (8, [4], 1), (63, [3], 0)],
  [(8, [3], 1), (63, [2], 0)],
  [(4, [0], 0), (42, [9, 0, 61, 0, 0], 0), (4, [0], 0), (40, [9, 2], 0), (0, [], 5), (10, [], 0), (2, [2], 0), (0, [], 2), (13, [], 0), (0, [], 2), (14, [], 0), (51, [], 0), (4, [0], 0), (42, [9, 0, 61, 0, 0], 0), (4, [0], 0), (40, [9, 2], 0), (0, [], 6), (10, [], 0), (2, [2], 0), (0, [], 4), (13, [], 0), (51, [], 0), (4, [0], 0), (42, [9, 33, 73, 0, 0], 0), (2, [2], 0), (4, [0], 0), (2, [1], 0), (80, [147, 2], 0), (51, [], 0), (4, [0], 0), (42, [9, 32, 72, 0, 0], 0), (2, [2], 0), (4, [0], 0), (80, [129, 1], 0), (51, [], 0), (8, [2], 1), (63, [1], 0)],
  [(4, [0], 0), (0, [], 0), (80, [141, 2], 0), (72, [], 0)]]
def cd_M_bestOf : List (List qm_Ins) := [
  [(0, [], 0), (5, [1], 0), (0, [], 1), (5, [2], 0), (64, [1], 0)],
  [(2, [2], 0), (0, [], 8), (60, [3, 4], 0), (4, [0], 0), (2, [2], 0), (50, [], 0), (4, [0], 0), (2, [1], 0), (50, [], 0), (60, [5, 2], 0), (2, [2], 0), (63, [3], 0)],
  [(2, [1], 0), (64, [3], 0)],
  [(5, [1], 0), (8, [2], 1), (63, [1], 0)],
  [(2, [1], 0), (70, [], 0)]]
def cd_M_way : List (List qm_Ins) := [
  [(2, [1], 0), (0, [], 1), (0, [], 40), (80, [57, 3], 0), (61, [0, 3], 0), (4, [0], 0), (2, [1], 0), (0, [], 40), (80, [142, 3], 0), (61, [0, 3], 0), (2, [2], 0), (0, [], -1), (0, [], 7), (80, [57, 3], 0), (61, [0, 3], 0), (2, [3], 0), (0, [], 0), (2, [2], 0), (61, [3, 1], 0), (0, [], 2), (63, [2], 0)],
  [(0, [], 1), (64, [2], 0)],
  [(80, [57, 3], 0), (61, [1, 4], 0), (64, [3], 0)],
  [(0, [], -1), (70, [], 0)],
  [(4, [0], 0), (2, [1], 0), (80, [148, 2], 0), (2, [2], 0), (61, [2, 7], 0), (2, [3], 0), (61, [1, 5], 0), (4, [0], 0), (42, [9, 32, 72, 0, 0], 0), (2, [2], 0), (50, [], 0), (63, [6], 0)],
  [(4, [0], 0), (42, [9, 33, 73, 0, 0], 0), (2, [2], 0), (50, [], 0), (64, [6], 0)],
  [(70, [], 0)],
  [(4, [0], 0), (42, [9, 32, 72, 0, 0], 0), (80, [149, 1], 0), (5, [4], 0), (4, [0], 0), (42, [9, 33, 73, 0, 0], 0), (80, [149, 1], 0), (5, [5], 0), (2, [3], 0), (0, [], 2), (60, [3, 10], 0), (2, [3], 0), (61, [1, 8], 0), (2, [4], 0), (63, [9], 0)],
  [(2, [5], 0), (64, [9], 0)],
  [(70, [], 0)],
  [(0, [], 0), (5, [6], 0), (64, [11], 0)],
  [(2, [6], 0), (0, [], 8), (60, [3, 13], 0), (4, [0], 0), (42, [9, 32, 72, 0, 0], 0), (2, [6], 0), (50, [], 0), (4, [0], 0), (42, [9, 32, 72, 0, 0], 0), (2, [4], 0), (50, [], 0), (60, [1, 12], 0), (4, [0], 0), (42, [9, 33, 73, 0, 0], 0), (2, [6], 0), (50, [], 0), (4, [0], 0), (42, [9, 33, 73, 0, 0], 0), (2, [5], 0), (50, [], 0), (60, [1, 12], 0), (2, [6], 0), (70, [], 0)],
  [(8, [6], 1), (63, [11], 0)],
  [(0, [], -1), (70, [], 0)]]
def cd_M_tryEnds : List (List qm_Ins) := [
  [(4, [0], 0), (0, [], 0), (0, [], 2), (80, [56, 3], 0), (4, [0], 0), (0, [], 2), (80, [141, 2], 0), (0, [], 0), (5, [4], 0), (64, [1], 0)],
  [(2, [4], 0), (4, [0], 0), (40, [9, 1], 0), (60, [3, 6], 0), (0, [], 0), (5, [5], 0), (64, [2], 0)],
  [(2, [5], 0), (4, [0], 0), (2, [4], 0), (80, [59, 2], 0), (60, [3, 5], 0), (4, [0], 0), (2, [4], 0), (2, [5], 0), (80, [60, 3], 0), (5, [6], 0), (4, [0], 0), (42, [9, 0, 61, 0, 0], 0), (2, [6], 0), (0, [], 2), (10, [], 0), (4, [0], 0), (42, [9, 0, 61, 0, 0], 0), (2, [6], 0), (0, [], 4), (10, [], 0), (50, [], 0), (0, [], -1), (60, [1, 3], 0), (4, [0], 0), (42, [9, 0, 61, 0, 0], 0), (0, [], 10), (0, [], 2), (4, [0], 0), (42, [9, 0, 61, 0, 0], 0), (2, [6], 0), (50, [], 0), (12, [], 0), (10, [], 0), (2, [2], 0), (10, [], 0), (50, [], 0), (63, [4], 0)],
  [(4, [0], 0), (42, [9, 0, 61, 0, 0], 0), (2, [6], 0), (0, [], 4), (10, [], 0), (2, [2], 0), (10, [], 0), (50, [], 0), (64, [4], 0)],
  [(51, [], 0), (8, [5], 1), (63, [2], 0)],
  [(8, [4], 1), (63, [1], 0)],
  [(4, [0], 0), (2, [1], 0), (80, [147, 2], 0), (34, [], 0), (0, [], 0), (5, [4], 0), (64, [7], 0)],
  [(2, [4], 0), (4, [0], 0), (40, [9, 1], 0), (60, [3, 10], 0), (0, [], 0), (5, [5], 0), (64, [8], 0)],
  [(2, [5], 0), (4, [0], 0), (2, [4], 0), (80, [59, 2], 0), (60, [3, 9], 0), (4, [3], 0), (0, [], 8), (2, [4], 0), (12, [], 0), (2, [5], 0), (10, [], 0), (4, [0], 0), (42, [9, 0, 61, 0, 0], 0), (4, [0], 0), (2, [4], 0), (2, [5], 0), (80, [60, 3], 0), (0, [], 2), (10, [], 0), (50, [], 0), (51, [], 0), (8, [5], 1), (63, [8], 0)],
  [(8, [4], 1), (63, [7], 0)],
  [(4, [0], 0), (0, [], 0), (80, [141, 2], 0), (72, [], 0)]]
def cd_M_lesser : List (List qm_Ins) := [
  [(4, [0], 0), (42, [9, 34, 74, 0, 0], 0), (2, [1], 0), (50, [], 0), (4, [0], 0), (42, [9, 35, 75, 0, 0], 0), (2, [1], 0), (50, [], 0), (60, [3, 1], 0), (4, [0], 0), (42, [9, 34, 74, 0, 0], 0), (2, [1], 0), (50, [], 0), (63, [2], 0)],
  [(4, [0], 0), (42, [9, 35, 75, 0, 0], 0), (2, [1], 0), (50, [], 0), (64, [2], 0)],
  [(70, [], 0)]]
def cd_M_greater : List (List qm_Ins) := [
  [(4, [0], 0), (42, [9, 34, 74, 0, 0], 0), (2, [1], 0), (50, [], 0), (4, [0], 0), (42, [9, 35, 75, 0, 0], 0), (2, [1], 0), (50, [], 0), (60, [5, 1], 0), (4, [0], 0), (42, [9, 34, 74, 0, 0], 0), (2, [1], 0), (50, [], 0), (63, [2], 0)],
  [(4, [0], 0), (42, [9, 35, 75, 0, 0], 0), (2, [1], 0), (50, [], 0), (64, [2], 0)],
  [(70, [], 0)]]
def cd_M_spans : List (List qm_Ins) := [
  [(4, [0], 0), (2, [1], 0), (0, [], 40), (80, [142, 3], 0), (61, [0, 1], 0), (4, [0], 0), (2, [2], 0), (2, [3], 0), (80, [62, 3], 0), (61, [0, 1], 0), (2, [4], 0), (0, [], 0), (0, [], 1), (80, [57, 3], 0), (61, [1, 2], 0), (64, [1], 0)],
  [(0, [], -1), (70, [], 0)],
  [(4, [0], 0), (2, [1], 0), (0, [], 0), (4, [0], 0), (42, [9, 34, 74, 0, 0], 0), (80, [151, 4], 0), (4, [0], 0), (2, [1], 0), (0, [], 1), (4, [0], 0), (42, [9, 35, 75, 0, 0], 0), (80, [151, 4], 0), (2, [4], 0), (61, [1, 3], 0), (4, [0], 0), (0, [], 8), (2, [2], 0), (12, [], 0), (2, [3], 0), (10, [], 0), (80, [152, 2], 0), (63, [4], 0)],
  [(4, [0], 0), (0, [], 8), (2, [2], 0), (12, [], 0), (2, [3], 0), (10, [], 0), (80, [153, 2], 0), (64, [4], 0)],
  [(70, [], 0)]]
def cd_M_sure : List (List qm_Ins) := [
  [(4, [0], 0), (2, [1], 0), (0, [], 40), (80, [142, 3], 0), (61, [0, 1], 0), (2, [2], 0), (0, [], 0), (0, [], 2), (80, [57, 3], 0), (61, [1, 2], 0), (64, [1], 0)],
  [(0, [], -1), (70, [], 0)],
  [(4, [0], 0), (2, [1], 0), (0, [], 0), (4, [0], 0), (42, [9, 34, 74, 0, 0], 0), (80, [151, 4], 0), (4, [0], 0), (2, [1], 0), (0, [], 1), (4, [0], 0), (42, [9, 35, 75, 0, 0], 0), (80, [151, 4], 0), (0, [], 0), (5, [3], 0), (0, [], -1), (5, [4], 0), (0, [], 0), (5, [5], 0), (0, [], 0), (5, [6], 0), (64, [3], 0)],
  [(2, [6], 0), (4, [0], 0), (40, [9, 1], 0), (60, [3, 12], 0), (0, [], 0), (5, [7], 0), (64, [4], 0)],
  [(2, [7], 0), (4, [0], 0), (2, [6], 0), (80, [59, 2], 0), (60, [3, 11], 0), (0, [], 8), (2, [6], 0), (12, [], 0), (2, [7], 0), (10, [], 0), (5, [8], 0), (2, [3], 0), (2, [2], 0), (61, [1, 5], 0), (4, [0], 0), (2, [8], 0), (80, [153, 2], 0), (63, [6], 0)],
  [(4, [0], 0), (2, [8], 0), (80, [152, 2], 0), (64, [6], 0)],
  [(0, [], 200), (60, [4, 7], 0), (0, [], 1), (63, [8], 0)],
  [(0, [], 0), (64, [8], 0)],
  [(10, [], 0), (5, [3], 0), (4, [0], 0), (2, [8], 0), (80, [153, 2], 0), (4, [0], 0), (2, [8], 0), (80, [152, 2], 0), (11, [], 0), (5, [9], 0), (4, [0], 0), (42, [9, 0, 61, 0, 0], 0), (4, [0], 0), (2, [6], 0), (2, [7], 0), (80, [60, 3], 0), (0, [], 4), (10, [], 0), (50, [], 0), (0, [], -1), (60, [1, 10], 0), (2, [9], 0), (2, [5], 0), (60, [4, 9], 0), (63, [10], 0)],
  [(2, [9], 0), (5, [5], 0), (0, [], 10), (2, [6], 0), (12, [], 0), (2, [7], 0), (10, [], 0), (5, [4], 0), (64, [10], 0)],
  [(8, [7], 1), (63, [4], 0)],
  [(8, [6], 1), (63, [3], 0)],
  [(2, [2], 0), (0, [], 2), (60, [1, 13], 0), (2, [4], 0), (63, [14], 0)],
  [(2, [3], 0), (64, [14], 0)],
  [(70, [], 0)]]
def cd_M_small : List (List qm_Ins) := [
  [(4, [0], 0), (2, [3], 0), (0, [], 40), (80, [142, 3], 0), (61, [0, 1], 0), (2, [1], 0), (0, [], 0), (0, [], 3), (80, [57, 3], 0), (61, [0, 1], 0), (2, [2], 0), (0, [], 0), (0, [], 2000), (80, [57, 3], 0), (61, [1, 2], 0), (64, [1], 0)],
  [(0, [], -1), (70, [], 0)],
  [(0, [], -1), (5, [4], 0), (0, [], 20), (5, [5], 0), (64, [3], 0)],
  [(2, [5], 0), (61, [5, 7], 0), (2, [4], 0), (61, [3, 7], 0), (4, [0], 0), (0, [], 0), (0, [], 2), (80, [56, 3], 0), (4, [0], 0), (0, [], 2), (80, [141, 2], 0), (0, [], 0), (5, [6], 0), (64, [4], 0)],
  [(2, [6], 0), (4, [0], 0), (40, [9, 1], 0), (60, [3, 5], 0), (4, [0], 0), (42, [9, 0, 61, 0, 0], 0), (4, [0], 0), (40, [9, 2], 0), (0, [], 120), (10, [], 0), (2, [6], 0), (10, [], 0), (0, [], 0), (51, [], 0), (8, [6], 1), (63, [4], 0)],
  [(4, [0], 0), (42, [9, 0, 61, 0, 0], 0), (4, [0], 0), (40, [9, 2], 0), (0, [], 7), (10, [], 0), (0, [], -1), (51, [], 0), (4, [0], 0), (0, [], 0), (2, [1], 0), (2, [5], 0), (2, [2], 0), (80, [65, 5], 0), (4, [0], 0), (0, [], 1), (47, [9, 27], 0), (4, [0], 0), (2, [3], 0), (80, [147, 2], 0), (34, [], 0), (4, [0], 0), (0, [], 0), (47, [9, 27], 0), (4, [0], 0), (0, [], 0), (0, [], 0), (80, [125, 3], 0), (61, [0, 6], 0), (2, [5], 0), (5, [4], 0), (64, [6], 0)],
  [(8, [5], -1), (63, [3], 0)],
  [(4, [0], 0), (0, [], 0), (80, [141, 2], 0), (2, [4], 0), (70, [], 0)]]
def cd_M_winter : List (List qm_Ins) := [
  [(2, [1], 0), (0, [], 1), (0, [], 999999), (80, [57, 3], 0), (61, [1, 1], 0), (0, [], -1), (70, [], 0)],
  [(0, [], 0), (5, [2], 0), (64, [2], 0)],
  [(2, [2], 0), (0, [], 48), (60, [3, 3], 0), (4, [0], 0), (42, [9, 36, 76, 0, 0], 0), (2, [2], 0), (0, [], 0), (55, [], 0), (8, [2], 1), (63, [2], 0)],
  [(0, [], 0), (5, [2], 0), (0, [], 1), (5, [3], 0), (64, [4], 0)],
  [(2, [3], 0), (4, [0], 0), (80, [63, 1], 0), (60, [4, 12], 0), (0, [], -1), (5, [4], 0), (0, [], 0), (5, [5], 0), (0, [], 0), (5, [6], 0), (64, [5], 0)],
  [(2, [6], 0), (4, [0], 0), (40, [9, 1], 0), (60, [3, 10], 0), (0, [], 0), (5, [7], 0), (64, [6], 0)],
  [(2, [7], 0), (4, [0], 0), (2, [6], 0), (80, [59, 2], 0), (60, [3, 9], 0), (4, [0], 0), (42, [9, 36, 76, 0, 0], 0), (0, [], 8), (2, [6], 0), (12, [], 0), (2, [7], 0), (10, [], 0), (54, [], 0), (61, [1, 8], 0), (2, [4], 0), (61, [2, 7], 0), (4, [0], 0), (2, [6], 0), (2, [7], 0), (80, [124, 3], 0), (2, [5], 0), (60, [4, 7], 0), (63, [8], 0)],
  [(0, [], 8), (2, [6], 0), (12, [], 0), (2, [7], 0), (10, [], 0), (5, [4], 0), (4, [0], 0), (2, [6], 0), (2, [7], 0), (80, [124, 3], 0), (5, [5], 0), (64, [8], 0)],
  [(8, [7], 1), (63, [6], 0)],
  [(8, [6], 1), (63, [5], 0)],
  [(4, [0], 0), (42, [9, 36, 76, 0, 0], 0), (2, [4], 0), (0, [], 1), (55, [], 0), (2, [2], 0), (2, [5], 0), (10, [], 0), (5, [2], 0), (2, [2], 0), (2, [1], 0), (60, [2, 11], 0), (2, [3], 0), (70, [], 0)],
  [(8, [3], 1), (63, [4], 0)],
  [(0, [], -1), (70, [], 0)]]
def cd_M_remember : List (List qm_Ins) := [
  [(0, [], 0), (5, [1], 0), (64, [1], 0)],
  [(2, [1], 0), (4, [0], 0), (40, [9, 1], 0), (60, [3, 2], 0), (4, [0], 0), (42, [9, 0, 61, 0, 0], 0), (0, [], 112), (2, [1], 0), (10, [], 0), (4, [0], 0), (2, [1], 0), (80, [59, 2], 0), (51, [], 0), (8, [1], 1), (63, [1], 0)],
  [(4, [0], 0), (42, [9, 0, 61, 0, 0], 0), (0, [], 8), (0, [], 1), (51, [], 0), (4, [0], 0), (80, [63, 1], 0), (70, [], 0)]]
def cd_M_missingOf : List (List qm_Ins) := [
  [(4, [0], 0), (42, [9, 0, 61, 0, 0], 0), (0, [], 112), (2, [1], 0), (10, [], 0), (50, [], 0), (4, [0], 0), (2, [1], 0), (80, [59, 2], 0), (60, [5, 1], 0), (4, [0], 0), (42, [9, 0, 61, 0, 0], 0), (0, [], 112), (2, [1], 0), (10, [], 0), (50, [], 0), (4, [0], 0), (2, [1], 0), (80, [59, 2], 0), (11, [], 0), (63, [2], 0)],
  [(0, [], 0), (64, [2], 0)],
  [(70, [], 0)]]
def cd_M_missing : List (List qm_Ins) := [
  [(4, [0], 0), (42, [9, 0, 61, 0, 0], 0), (0, [], 8), (50, [], 0), (61, [0, 2], 0), (2, [1], 0), (0, [], -1), (60, [0, 1], 0), (4, [0], 0), (2, [1], 0), (80, [61, 2], 0), (61, [0, 2], 0), (2, [2], 0), (61, [1, 2], 0), (64, [1], 0)],
  [(2, [1], 0), (0, [], -1), (60, [1, 3], 0), (2, [2], 0), (0, [], 1), (0, [], 48), (80, [57, 3], 0), (61, [1, 3], 0), (64, [2], 0)],
  [(0, [], -1), (70, [], 0)],
  [(2, [1], 0), (61, [2, 4], 0), (4, [0], 0), (2, [1], 0), (80, [159, 2], 0), (70, [], 0)],
  [(0, [], 0), (5, [3], 0), (0, [], 0), (5, [4], 0), (64, [5], 0)],
  [(2, [4], 0), (4, [0], 0), (40, [9, 1], 0), (60, [3, 6], 0), (2, [3], 0), (4, [0], 0), (2, [4], 0), (80, [159, 2], 0), (10, [], 0), (5, [3], 0), (8, [4], 1), (63, [5], 0)],
  [(2, [3], 0), (2, [2], 0), (10, [], 0), (0, [], 1), (11, [], 0), (2, [2], 0), (13, [], 0), (70, [], 0)]]
def cd_M_falls : List (List qm_Ins) := [
  [(2, [1], 0), (0, [], 0), (0, [], 9999), (80, [57, 3], 0), (61, [0, 1], 0), (2, [2], 0), (0, [], 1), (0, [], 20), (80, [57, 3], 0), (61, [0, 1], 0), (2, [1], 0), (2, [2], 0), (10, [], 0), (0, [], 10000), (60, [4, 1], 0), (2, [3], 0), (0, [], 1), (0, [], 40), (80, [57, 3], 0), (61, [0, 1], 0), (4, [0], 0), (2, [3], 0), (0, [], 40), (80, [142, 3], 0), (61, [1, 2], 0), (64, [1], 0)],
  [(0, [], -1), (70, [], 0)],
  [(0, [], 0), (5, [4], 0), (0, [], 0), (5, [5], 0), (64, [3], 0)],
  [(2, [5], 0), (2, [2], 0), (60, [3, 8], 0), (4, [0], 0), (0, [], 0), (0, [], 2), (80, [56, 3], 0), (4, [0], 0), (0, [], 2), (80, [141, 2], 0), (2, [1], 0), (2, [5], 0), (10, [], 0), (0, [], 7), (12, [], 0), (0, [], 4), (10, [], 0), (5, [6], 0), (0, [], 0), (5, [7], 0), (64, [4], 0)],
  [(2, [7], 0), (2, [3], 0), (60, [3, 5], 0), (4, [0], 0), (2, [6], 0), (4, [0], 0), (42, [9, 0, 61, 0, 0], 0), (0, [], 1), (50, [], 0), (14, [], 0), (80, [136, 2], 0), (2, [6], 0), (0, [], 163), (12, [], 0), (0, [], 31), (10, [], 0), (0, [], 30097), (14, [], 0), (5, [6], 0), (8, [7], 1), (63, [4], 0)],
  [(2, [4], 0), (4, [0], 0), (42, [9, 0, 61, 0, 0], 0), (4, [0], 0), (40, [9, 2], 0), (0, [], 7), (10, [], 0), (50, [], 0), (61, [2, 6], 0), (0, [], 1), (63, [7], 0)],
  [(0, [], 0), (64, [7], 0)],
  [(10, [], 0), (5, [4], 0), (8, [5], 1), (63, [3], 0)],
  [(4, [0], 0), (0, [], 0), (80, [141, 2], 0), (2, [4], 0), (70, [], 0)]]
def cd_M_image : List (List qm_Ins) := [
  [(4, [0], 0), (0, [], 0), (0, [], 1), (80, [56, 3], 0), (4, [0], 0), (80, [63, 1], 0), (70, [], 0)]]
def cd_M_back : List (List qm_Ins) := [
  [(4, [0], 0), (0, [], 1), (0, [], 0), (80, [56, 3], 0), (4, [0], 0), (80, [63, 1], 0), (70, [], 0)]]
def cd_M_about : List (List qm_Ins) := [
  [(2, [1], 0), (0, [], 10), (0, [], 49), (80, [57, 3], 0), (61, [0, 1], 0), (4, [0], 0), (42, [9, 0, 61, 0, 0], 0), (0, [], 70), (2, [1], 0), (10, [], 0), (0, [], 10), (11, [], 0), (50, [], 0), (70, [], 0)],
  [(2, [1], 0), (65, [11, 2, 3, 4, 5, 6, 7, 8, 9, 10], 0)],
  [(4, [0], 0), (40, [9, 1], 0), (70, [], 0)],
  [(4, [0], 0), (42, [9, 0, 61, 0, 0], 0), (0, [], 0), (50, [], 0), (70, [], 0)],
  [(4, [0], 0), (42, [9, 0, 61, 0, 0], 0), (0, [], 1), (50, [], 0), (70, [], 0)],
  [(4, [0], 0), (42, [9, 0, 61, 0, 0], 0), (0, [], 2), (50, [], 0), (70, [], 0)],
  [(4, [0], 0), (42, [9, 0, 61, 0, 0], 0), (0, [], 3), (50, [], 0), (70, [], 0)],
  [(4, [0], 0), (42, [9, 0, 61, 0, 0], 0), (0, [], 4), (50, [], 0), (70, [], 0)],
  [(4, [0], 0), (42, [9, 0, 61, 0, 0], 0), (0, [], 5), (50, [], 0), (70, [], 0)],
  [(4, [0], 0), (42, [9, 0, 61, 0, 0], 0), (0, [], 6), (50, [], 0), (70, [], 0)],
  [(4, [0], 0), (40, [9, 5], 0), (70, [], 0)],
  [(0, [], -1), (70, [], 0)]]
def cd_L_thickOf : List (List qm_Ins) := [
  [(4, [0], 0), (43, [5, 0], 0), (0, [], 18), (80, [225, 2], 0), (5, [4], 0), (2, [4], 0), (0, [], -1), (60, [0, 1], 0), (4, [0], 0), (4, [1], 0), (2, [2], 0), (2, [3], 0), (80, [178, 4], 0), (4, [0], 0), (2, [4], 0), (80, [179, 2], 0), (0, [], 1), (0, [], 999), (80, [182, 3], 0), (70, [], 0)],
  [(2, [2], 0), (2, [3], 0), (80, [54, 2], 0), (5, [5], 0), (4, [1], 0), (42, [3, 2, 12, 1, 0], 0), (2, [5], 0), (50, [], 0), (5, [6], 0), (4, [1], 0), (42, [3, 3, 13, 1, 0], 0), (2, [5], 0), (50, [], 0), (0, [], 300), (60, [3, 2], 0), (2, [6], 0), (0, [], 300), (4, [1], 0), (42, [3, 3, 13, 1, 0], 0), (2, [5], 0), (50, [], 0), (11, [], 0), (12, [], 0), (0, [], 100), (13, [], 0), (63, [3], 0)],
  [(0, [], 0), (64, [3], 0)],
  [(5, [7], 0), (0, [], 10), (2, [6], 0), (12, [], 0), (2, [7], 0), (11, [], 0), (70, [], 0)]]
def cd_L_heatOf : List (List qm_Ins) := [
  [(4, [0], 0), (43, [5, 0], 0), (0, [], 21), (80, [225, 2], 0), (5, [4], 0), (2, [4], 0), (0, [], -1), (60, [0, 1], 0), (4, [0], 0), (4, [1], 0), (2, [2], 0), (2, [3], 0), (80, [178, 4], 0), (4, [0], 0), (2, [4], 0), (80, [179, 2], 0), (0, [], 0), (0, [], 9999), (80, [182, 3], 0), (70, [], 0)],
  [(2, [2], 0), (2, [3], 0), (80, [54, 2], 0), (5, [5], 0), (4, [1], 0), (42, [3, 2, 12, 1, 0], 0), (2, [5], 0), (50, [], 0), (0, [], 2500), (4, [1], 0), (42, [3, 3, 13, 1, 0], 0), (2, [5], 0), (50, [], 0), (11, [], 0), (12, [], 0), (0, [], 100), (13, [], 0), (70, [], 0)]]
def cd_L_worthOf : List (List qm_Ins) := [
  [(4, [0], 0), (43, [5, 0], 0), (0, [], 20), (80, [225, 2], 0), (5, [4], 0), (2, [4], 0), (0, [], -1), (60, [0, 1], 0), (4, [0], 0), (4, [1], 0), (2, [2], 0), (2, [3], 0), (80, [178, 4], 0), (4, [0], 0), (2, [4], 0), (80, [179, 2], 0), (70, [], 0)],
  [(4, [1], 0), (42, [3, 3, 13, 1, 0], 0), (2, [2], 0), (2, [3], 0), (80, [54, 2], 0), (50, [], 0), (15, [], 0), (70, [], 0)]]
def cd_L_standOf : List (List qm_Ins) := [
  [(4, [0], 0), (43, [5, 0], 0), (0, [], 19), (80, [225, 2], 0), (5, [2], 0), (2, [2], 0), (0, [], -1), (60, [1, 1], 0), (0, [], 10), (4, [1], 0), (40, [3, 0], 0), (12, [], 0), (0, [], 20), (4, [1], 0), (40, [3, 10], 0), (12, [], 0), (10, [], 0), (0, [], 15), (4, [1], 0), (40, [3, 11], 0), (12, [], 0), (10, [], 0), (70, [], 0)],
  [(4, [0], 0), (42, [5, 1, 41, 0, 0], 0), (0, [], 13), (4, [1], 0), (40, [3, 0], 0), (51, [], 0), (4, [0], 0), (42, [5, 1, 41, 0, 0], 0), (0, [], 14), (4, [1], 0), (80, [194, 1], 0), (51, [], 0), (4, [0], 0), (42, [5, 1, 41, 0, 0], 0), (0, [], 15), (4, [1], 0), (40, [3, 10], 0), (51, [], 0), (4, [0], 0), (42, [5, 1, 41, 0, 0], 0), (0, [], 16), (4, [1], 0), (40, [3, 11], 0), (51, [], 0), (4, [0], 0), (42, [5, 1, 41, 0, 0], 0), (0, [], 12), (4, [1], 0), (40, [3, 8], 0), (51, [], 0), (4, [0], 0), (2, [2], 0), (80, [179, 2], 0), (0, [], 0), (0, [], 9999), (80, [182, 3], 0), (70, [], 0)]]
def cd_L_heightOf : List (List qm_Ins) := [
  [(0, [], 0), (5, [3], 0), (0, [], 0), (5, [4], 0), (64, [1], 0)],
  [(2, [4], 0), (4, [1], 0), (42, [3, 7, 17, 1, 0], 0), (2, [2], 0), (50, [], 0), (60, [3, 2], 0), (2, [3], 0), (4, [0], 0), (4, [1], 0), (2, [2], 0), (2, [4], 0), (80, [166, 4], 0), (10, [], 0), (5, [3], 0), (8, [4], 1), (63, [1], 0)],
  [(2, [3], 0), (70, [], 0)]]
def cd_L_leanOf : List (List qm_Ins) := [
  [(4, [0], 0), (4, [1], 0), (4, [1], 0), (40, [3, 0], 0), (0, [], 1), (11, [], 0), (80, [170, 3], 0), (4, [0], 0), (4, [1], 0), (0, [], 0), (80, [170, 3], 0), (11, [], 0), (70, [], 0)]]
def cd_L_airIn : List (List qm_Ins) := [
  [(0, [], 0), (5, [2], 0), (0, [], 0), (5, [3], 0), (1, [], 0), (6, [4], 0), (0, [], 0), (5, [6], 0), (64, [1], 0)],
  [(2, [6], 0), (4, [1], 0), (40, [3, 0], 0), (60, [3, 4], 0), (0, [], 0), (5, [7], 0), (0, [], 0), (5, [8], 0), (0, [], 0), (5, [9], 0), (64, [2], 0)],
  [(2, [9], 0), (4, [1], 0), (42, [3, 7, 17, 1, 0], 0), (2, [6], 0), (50, [], 0), (60, [3, 3], 0), (4, [0], 0), (4, [1], 0), (2, [6], 0), (2, [9], 0), (80, [166, 4], 0), (5, [10], 0), (2, [7], 0), (2, [10], 0), (81, [], 0), (5, [7], 0), (2, [8], 0), (2, [10], 0), (10, [], 0), (5, [8], 0), (3, [4], 0), (2, [10], 0), (2, [10], 0), (12, [], 0), (30, [], 0), (21, [], 0), (6, [4], 0), (8, [9], 1), (63, [2], 0)],
  [(2, [2], 0), (2, [7], 0), (10, [], 0), (5, [2], 0), (2, [3], 0), (2, [8], 0), (81, [], 0), (5, [3], 0), (8, [6], 1), (63, [1], 0)],
  [(2, [2], 0), (30, [], 0), (2, [3], 0), (30, [], 0), (23, [], 0), (6, [6], 0), (3, [6], 0), (1, [], 0), (29, [], 0), (61, [1, 5], 0), (0, [], 0), (63, [6], 0)],
  [(1, [], 1000), (1, [], 785), (3, [4], 0), (23, [], 0), (3, [6], 0), (24, [], 0), (22, [], 0), (31, [], 0), (64, [6], 0)],
  [(70, [], 0)]]
def cd_L_beetlesIn : List (List qm_Ins) := [
  [(0, [], 0), (5, [2], 0), (0, [], 0), (5, [3], 0), (64, [1], 0)],
  [(2, [3], 0), (4, [1], 0), (40, [3, 0], 0), (60, [3, 6], 0), (0, [], 0), (5, [4], 0), (64, [2], 0)],
  [(2, [4], 0), (4, [1], 0), (42, [3, 7, 17, 1, 0], 0), (2, [3], 0), (50, [], 0), (60, [3, 5], 0), (2, [2], 0), (4, [0], 0), (4, [1], 0), (2, [3], 0), (2, [4], 0), (80, [174, 4], 0), (61, [0, 3], 0), (0, [], 1), (63, [4], 0)],
  [(0, [], 0), (64, [4], 0)],
  [(10, [], 0), (5, [2], 0), (8, [4], 1), (63, [2], 0)],
  [(8, [3], 1), (63, [1], 0)],
  [(2, [2], 0), (70, [], 0)]]
def cd_L_hasBeetle : List (List qm_Ins) := [
  [(4, [0], 0), (4, [1], 0), (2, [2], 0), (2, [3], 0), (80, [178, 4], 0), (0, [], 0), (5, [4], 0), (64, [1], 0)],
  [(2, [4], 0), (4, [0], 0), (43, [5, 0], 0), (40, [4, 6], 0), (60, [3, 3], 0), (4, [0], 0), (43, [5, 0], 0), (42, [4, 1, 32, 1, 0], 0), (2, [4], 0), (50, [], 0), (0, [], 22), (60, [1, 2], 0), (4, [0], 0), (2, [4], 0), (80, [179, 2], 0), (61, [0, 2], 0), (0, [], 1), (70, [], 0)],
  [(8, [4], 1), (63, [1], 0)],
  [(0, [], 0), (70, [], 0)]]
def cd_L_pass : List (List qm_Ins) := [
  [(4, [0], 0), (4, [1], 0), (4, [2], 0), (2, [3], 0), (80, [176, 4], 0), (4, [1], 0), (80, [185, 1], 0), (61, [1, 1], 0), (4, [0], 0), (4, [1], 0), (4, [1], 0), (40, [3, 0], 0), (0, [], 1), (11, [], 0), (80, [170, 3], 0), (4, [0], 0), (4, [1], 0), (0, [], 0), (80, [170, 3], 0), (11, [], 0), (5, [4], 0), (2, [4], 0), (83, [], 0), (4, [0], 0), (4, [1], 0), (80, [169, 2], 0), (60, [5, 1], 0), (4, [1], 0), (4, [1], 0), (40, [3, 8], 0), (44, [3, 9], 0), (64, [1], 0)],
  [(72, [], 0)]]
def cd_L_dryAll : List (List qm_Ins) := [
  [(2, [3], 0), (0, [], 0), (0, [], 11), (80, [53, 3], 0), (61, [1, 1], 0), (72, [], 0)],
  [(4, [0], 0), (42, [5, 1, 41, 0, 0], 0), (0, [], 8), (4, [2], 0), (42, [2, 1, 21, 1, 0], 0), (2, [3], 0), (50, [], 0), (51, [], 0), (4, [0], 0), (42, [5, 1, 41, 0, 0], 0), (0, [], 9), (4, [2], 0), (42, [2, 2, 22, 1, 0], 0), (2, [3], 0), (50, [], 0), (51, [], 0), (4, [0], 0), (42, [5, 1, 41, 0, 0], 0), (0, [], 10), (4, [2], 0), (42, [2, 3, 23, 1, 0], 0), (2, [3], 0), (50, [], 0), (51, [], 0), (4, [0], 0), (42, [5, 1, 41, 0, 0], 0), (0, [], 11), (4, [2], 0), (42, [2, 4, 24, 1, 0], 0), (2, [3], 0), (50, [], 0), (51, [], 0), (0, [], 0), (5, [4], 0), (64, [2], 0)],
  [(2, [4], 0), (4, [1], 0), (40, [3, 0], 0), (60, [3, 5], 0), (0, [], 0), (5, [5], 0), (64, [3], 0)],
  [(2, [5], 0), (4, [1], 0), (42, [3, 7, 17, 1, 0], 0), (2, [4], 0), (50, [], 0), (60, [3, 4], 0), (2, [4], 0), (2, [5], 0), (80, [54, 2], 0), (5, [6], 0), (4, [1], 0), (42, [3, 3, 13, 1, 0], 0), (2, [6], 0), (4, [1], 0), (42, [3, 3, 13, 1, 0], 0), (2, [6], 0), (50, [], 0), (4, [0], 0), (4, [1], 0), (2, [4], 0), (2, [5], 0), (80, [177, 4], 0), (11, [], 0), (0, [], 0), (0, [], 2000), (80, [182, 3], 0), (51, [], 0), (8, [5], 1), (63, [3], 0)],
  [(8, [4], 1), (63, [2], 0)],
  [(4, [1], 0), (32, [], 0), (40, [3, 8], 0), (0, [], 1), (10, [], 0), (44, [3, 8], 0), (72, [], 0)]]
def cd_L_driedBy : List (List qm_Ins) := [
  [(4, [0], 0), (43, [5, 0], 0), (0, [], 17), (80, [225, 2], 0), (5, [4], 0), (2, [4], 0), (0, [], -1), (60, [0, 1], 0), (4, [0], 0), (4, [1], 0), (2, [2], 0), (2, [3], 0), (80, [178, 4], 0), (4, [0], 0), (2, [4], 0), (80, [179, 2], 0), (70, [], 0)],
  [(2, [2], 0), (2, [3], 0), (80, [54, 2], 0), (5, [5], 0), (0, [], 2), (4, [0], 0), (42, [5, 1, 41, 0, 0], 0), (0, [], 8), (50, [], 0), (10, [], 0), (4, [0], 0), (42, [5, 1, 41, 0, 0], 0), (0, [], 9), (50, [], 0), (10, [], 0), (4, [1], 0), (2, [2], 0), (2, [3], 0), (80, [196, 3], 0), (11, [], 0), (5, [6], 0), (4, [1], 0), (42, [3, 3, 13, 1, 0], 0), (2, [5], 0), (50, [], 0), (0, [], 10), (4, [0], 0), (42, [5, 1, 41, 0, 0], 0), (0, [], 11), (50, [], 0), (12, [], 0), (11, [], 0), (2, [6], 0), (12, [], 0), (0, [], 40), (13, [], 0), (5, [7], 0), (4, [1], 0), (42, [3, 4, 14, 1, 0], 0), (2, [5], 0), (50, [], 0), (61, [1, 2], 0), (4, [1], 0), (2, [2], 0), (2, [3], 0), (80, [195, 3], 0), (61, [0, 2], 0), (0, [], 1), (63, [3], 0)],
  [(0, [], 0), (64, [3], 0)],
  [(5, [8], 0), (2, [8], 0), (61, [0, 4], 0), (2, [7], 0), (0, [], 10), (4, [0], 0), (42, [5, 1, 41, 0, 0], 0), (0, [], 10), (50, [], 0), (12, [], 0), (11, [], 0), (63, [5], 0)],
  [(2, [7], 0), (64, [5], 0)],
  [(70, [], 0)]]
def cd_L_look : List (List qm_Ins) := [
  [(2, [2], 0), (2, [3], 0), (80, [54, 2], 0), (5, [4], 0), (4, [0], 0), (42, [5, 1, 41, 0, 0], 0), (0, [], 0), (4, [1], 0), (42, [3, 3, 13, 1, 0], 0), (2, [4], 0), (50, [], 0), (51, [], 0), (4, [0], 0), (42, [5, 1, 41, 0, 0], 0), (0, [], 1), (4, [1], 0), (42, [3, 2, 12, 1, 0], 0), (2, [4], 0), (50, [], 0), (51, [], 0), (4, [0], 0), (42, [5, 1, 41, 0, 0], 0), (0, [], 2), (4, [1], 0), (42, [3, 1, 11, 1, 0], 0), (2, [4], 0), (50, [], 0), (51, [], 0), (4, [0], 0), (42, [5, 1, 41, 0, 0], 0), (0, [], 3), (4, [1], 0), (42, [3, 4, 14, 1, 0], 0), (2, [4], 0), (50, [], 0), (51, [], 0), (4, [0], 0), (42, [5, 1, 41, 0, 0], 0), (0, [], 4), (4, [1], 0), (80, [185, 1], 0), (61, [0, 1], 0), (0, [], 0), (63, [2], 0)],
  [(2, [3], 0), (64, [2], 0)],
  [(51, [], 0), (4, [0], 0), (42, [5, 1, 41, 0, 0], 0), (0, [], 5), (4, [1], 0), (2, [2], 0), (2, [3], 0), (80, [195, 3], 0), (61, [0, 3], 0), (0, [], 1), (63, [4], 0)],
  [(0, [], 0), (64, [4], 0)],
  [(51, [], 0), (4, [0], 0), (42, [5, 1, 41, 0, 0], 0), (0, [], 6), (4, [1], 0), (2, [2], 0), (2, [3], 0), (80, [196, 3], 0), (51, [], 0), (4, [0], 0), (42, [5, 1, 41, 0, 0], 0), (0, [], 7), (4, [1], 0), (2, [2], 0), (80, [197, 2], 0), (61, [0, 5], 0), (0, [], 1), (63, [6], 0)],
  [(0, [], 0), (64, [6], 0)],
  [(51, [], 0), (4, [0], 0), (42, [5, 1, 41, 0, 0], 0), (0, [], 12), (4, [1], 0), (40, [3, 8], 0), (51, [], 0), (72, [], 0)]]
def cd_L_valueOf : List (List qm_Ins) := [
  [(0, [], 0), (5, [2], 0), (4, [0], 0), (43, [5, 0], 0), (42, [4, 2, 33, 1, 0], 0), (2, [1], 0), (50, [], 0), (5, [3], 0), (64, [1], 0)],
  [(2, [3], 0), (4, [0], 0), (43, [5, 0], 0), (42, [4, 3, 34, 1, 0], 0), (2, [1], 0), (50, [], 0), (60, [3, 10], 0), (4, [0], 0), (43, [5, 0], 0), (42, [4, 0, 31, 1, 0], 0), (2, [3], 0), (50, [], 0), (5, [4], 0), (2, [4], 0), (0, [], 20000), (11, [], 0), (5, [5], 0), (2, [5], 0), (61, [3, 4], 0), (2, [2], 0), (4, [0], 0), (42, [5, 2, 42, 0, 0], 0), (57, [], 0), (60, [3, 9], 0), (4, [0], 0), (42, [5, 2, 42, 0, 0], 0), (2, [2], 0), (2, [4], 0), (0, [], 10000), (60, [3, 2], 0), (2, [4], 0), (63, [3], 0)],
  [(4, [0], 0), (2, [4], 0), (0, [], 10000), (11, [], 0), (80, [180, 2], 0), (64, [3], 0)],
  [(51, [], 0), (8, [2], 1), (63, [9], 0)],
  [(2, [5], 0), (0, [], 57), (60, [0, 5], 0), (2, [5], 0), (0, [], 26), (60, [1, 8], 0), (64, [5], 0)],
  [(2, [2], 0), (0, [], 1), (60, [2, 9], 0), (4, [0], 0), (42, [5, 2, 42, 0, 0], 0), (2, [2], 0), (0, [], 1), (11, [], 0), (2, [5], 0), (0, [], 26), (60, [1, 6], 0), (0, [], 1), (4, [0], 0), (42, [5, 2, 42, 0, 0], 0), (2, [2], 0), (0, [], 1), (11, [], 0), (50, [], 0), (11, [], 0), (63, [7], 0)],
  [(4, [0], 0), (42, [5, 2, 42, 0, 0], 0), (2, [2], 0), (0, [], 1), (11, [], 0), (50, [], 0), (15, [], 0), (64, [7], 0)],
  [(51, [], 0), (63, [9], 0)],
  [(2, [2], 0), (0, [], 2), (60, [2, 9], 0), (8, [2], -1), (2, [5], 0), (4, [0], 0), (42, [5, 2, 42, 0, 0], 0), (2, [2], 0), (0, [], 1), (11, [], 0), (50, [], 0), (30, [], 0), (4, [0], 0), (42, [5, 2, 42, 0, 0], 0), (2, [2], 0), (50, [], 0), (30, [], 0), (80, [181, 3], 0), (6, [6], 0), (4, [0], 0), (42, [5, 2, 42, 0, 0], 0), (2, [2], 0), (0, [], 1), (11, [], 0), (1, [], -1000000), (1, [], 1000000), (3, [6], 0), (85, [], 0), (84, [], 0), (31, [], 0), (51, [], 0), (64, [9], 0)],
  [(8, [3], 1), (63, [1], 0)],
  [(4, [0], 0), (42, [5, 2, 42, 0, 0], 0), (0, [], 0), (50, [], 0), (70, [], 0)]]
def cd_L_nameValue : List (List qm_Ins) := [
  [(2, [1], 0), (0, [], 0), (0, [], 16), (80, [53, 3], 0), (61, [0, 1], 0), (4, [0], 0), (42, [5, 1, 41, 0, 0], 0), (2, [1], 0), (50, [], 0), (63, [2], 0)],
  [(0, [], 0), (64, [2], 0)],
  [(70, [], 0)]]
def cd_L_joined : List (List qm_Ins) := [
  [(2, [0], 0), (65, [29, 7, 8, 29, 27, 28, 29, 29, 29, 29, 29, 29, 29, 29, 29, 29, 29, 29, 29, 29, 9, 12, 15, 18, 21, 24, 1, 2, 3, 4], 24)],
  [(3, [1], 0), (3, [3], 0), (21, [], 0), (71, [], 0)],
  [(3, [1], 0), (3, [3], 0), (22, [], 0), (71, [], 0)],
  [(3, [1], 0), (3, [3], 0), (23, [], 0), (71, [], 0)],
  [(3, [3], 0), (1, [], 0), (29, [], 0), (61, [1, 5], 0), (1, [], 0), (63, [6], 0)],
  [(3, [1], 0), (3, [3], 0), (24, [], 0), (64, [6], 0)],
  [(71, [], 0)],
  [(3, [1], 0), (3, [3], 0), (85, [], 0), (71, [], 0)],
  [(3, [1], 0), (3, [3], 0), (84, [], 0), (71, [], 0)],
  [(3, [1], 0), (3, [3], 0), (29, [], 0), (61, [3, 10], 0), (1, [], 1), (63, [11], 0)],
  [(1, [], 0), (64, [11], 0)],
  [(71, [], 0)],
  [(3, [1], 0), (3, [3], 0), (29, [], 0), (61, [4, 13], 0), (1, [], 1), (63, [14], 0)],
  [(1, [], 0), (64, [14], 0)],
  [(71, [], 0)],
  [(3, [1], 0), (3, [3], 0), (29, [], 0), (61, [5, 16], 0), (1, [], 1), (63, [17], 0)],
  [(1, [], 0), (64, [17], 0)],
  [(71, [], 0)],
  [(3, [1], 0), (3, [3], 0), (29, [], 0), (61, [2, 19], 0), (1, [], 1), (63, [20], 0)],
  [(1, [], 0), (64, [20], 0)],
  [(71, [], 0)],
  [(3, [1], 0), (3, [3], 0), (29, [], 0), (61, [1, 22], 0), (1, [], 1), (63, [23], 0)],
  [(1, [], 0), (64, [23], 0)],
  [(71, [], 0)],
  [(3, [1], 0), (3, [3], 0), (29, [], 0), (61, [0, 25], 0), (1, [], 1), (63, [26], 0)],
  [(1, [], 0), (64, [26], 0)],
  [(71, [], 0)],
  [(3, [1], 0), (3, [3], 0), (26, [], 0), (71, [], 0)],
  [(3, [1], 0), (3, [3], 0), (27, [], 0), (71, [], 0)],
  [(1, [], 0), (71, [], 0)]]
def cd_L_clamp : List (List qm_Ins) := [
  [(2, [1], 0), (2, [2], 0), (2, [0], 0), (82, [], 0), (81, [], 0), (70, [], 0)]]
def cd_P_become : List (List qm_Ins) := [
  [(4, [1], 0), (42, [3, 1, 11, 1, 0], 0), (0, [], 0), (4, [0], 0), (42, [3, 1, 11, 1, 0], 0), (0, [], 0), (0, [], 48), (86, [], 0), (4, [1], 0), (42, [3, 2, 12, 1, 0], 0), (0, [], 0), (4, [0], 0), (42, [3, 2, 12, 1, 0], 0), (0, [], 0), (0, [], 48), (86, [], 0), (4, [1], 0), (42, [3, 3, 13, 1, 0], 0), (0, [], 0), (4, [0], 0), (42, [3, 3, 13, 1, 0], 0), (0, [], 0), (0, [], 48), (86, [], 0), (4, [1], 0), (42, [3, 4, 14, 1, 0], 0), (0, [], 0), (4, [0], 0), (42, [3, 4, 14, 1, 0], 0), (0, [], 0), (0, [], 48), (86, [], 0), (4, [1], 0), (42, [3, 5, 15, 1, 0], 0), (0, [], 0), (4, [0], 0), (42, [3, 5, 15, 1, 0], 0), (0, [], 0), (0, [], 48), (86, [], 0), (4, [1], 0), (42, [3, 6, 16, 1, 0], 0), (0, [], 0), (4, [0], 0), (42, [3, 6, 16, 1, 0], 0), (0, [], 0), (0, [], 48), (86, [], 0), (4, [1], 0), (42, [3, 7, 17, 1, 0], 0), (0, [], 0), (4, [0], 0), (42, [3, 7, 17, 1, 0], 0), (0, [], 0), (0, [], 6), (86, [], 0), (4, [0], 0), (4, [1], 0), (40, [3, 8], 0), (44, [3, 8], 0), (4, [0], 0), (4, [1], 0), (40, [3, 9], 0), (44, [3, 9], 0), (4, [0], 0), (4, [1], 0), (40, [3, 10], 0), (44, [3, 10], 0), (4, [0], 0), (4, [1], 0), (40, [3, 11], 0), (44, [3, 11], 0), (4, [0], 0), (4, [1], 0), (40, [3, 12], 0), (44, [3, 12], 0), (72, [], 0)]]
def cd_P_isFallen : List (List qm_Ins) := [
  [(4, [0], 0), (40, [3, 9], 0), (0, [], -1), (60, [0, 1], 0), (0, [], 1), (63, [2], 0)],
  [(0, [], 0), (64, [2], 0)],
  [(70, [], 0)]]
def cd_P_holds : List (List qm_Ins) := [
  [(2, [1], 0), (61, [2, 1], 0), (2, [1], 0), (4, [0], 0), (40, [3, 0], 0), (60, [3, 1], 0), (2, [2], 0), (61, [2, 1], 0), (2, [2], 0), (4, [0], 0), (42, [3, 7, 17, 1, 0], 0), (2, [1], 0), (50, [], 0), (60, [3, 1], 0), (0, [], 1), (63, [2], 0)],
  [(0, [], 0), (64, [2], 0)],
  [(70, [], 0)]]
def cd_P_clear : List (List qm_Ins) := [
  [(0, [], 0), (5, [1], 0), (64, [1], 0)],
  [(2, [1], 0), (0, [], 6), (60, [3, 2], 0), (4, [0], 0), (42, [3, 7, 17, 1, 0], 0), (2, [1], 0), (0, [], 0), (51, [], 0), (8, [1], 1), (63, [1], 0)],
  [(4, [0], 0), (0, [], -1), (44, [3, 9], 0), (72, [], 0)]]
def cd_P_add : List (List qm_Ins) := [
  [(2, [1], 0), (0, [], 0), (4, [0], 0), (40, [3, 0], 0), (0, [], 1), (11, [], 0), (80, [53, 3], 0), (61, [0, 1], 0), (4, [0], 0), (42, [3, 7, 17, 1, 0], 0), (2, [1], 0), (50, [], 0), (0, [], 8), (60, [2, 2], 0), (64, [1], 0)],
  [(0, [], -1), (70, [], 0)],
  [(4, [0], 0), (42, [3, 7, 17, 1, 0], 0), (2, [1], 0), (50, [], 0), (5, [5], 0), (2, [1], 0), (2, [5], 0), (80, [54, 2], 0), (5, [6], 0), (4, [0], 0), (42, [3, 1, 11, 1, 0], 0), (2, [6], 0), (2, [2], 0), (51, [], 0), (4, [0], 0), (42, [3, 2, 12, 1, 0], 0), (2, [6], 0), (2, [3], 0), (51, [], 0), (4, [0], 0), (42, [3, 3, 13, 1, 0], 0), (2, [6], 0), (2, [4], 0), (51, [], 0), (4, [0], 0), (42, [3, 4, 14, 1, 0], 0), (2, [6], 0), (0, [], 1), (51, [], 0), (4, [0], 0), (42, [3, 5, 15, 1, 0], 0), (2, [6], 0), (0, [], -1), (51, [], 0), (4, [0], 0), (42, [3, 6, 16, 1, 0], 0), (2, [6], 0), (0, [], -1), (51, [], 0), (4, [0], 0), (42, [3, 7, 17, 1, 0], 0), (2, [1], 0), (2, [5], 0), (0, [], 1), (10, [], 0), (51, [], 0), (2, [5], 0), (70, [], 0)]]
def cd_P_remove : List (List qm_Ins) := [
  [(4, [0], 0), (2, [1], 0), (2, [2], 0), (80, [186, 3], 0), (61, [1, 1], 0), (72, [], 0)],
  [(2, [2], 0), (5, [3], 0), (64, [2], 0)],
  [(2, [3], 0), (0, [], 1), (10, [], 0), (4, [0], 0), (42, [3, 7, 17, 1, 0], 0), (2, [1], 0), (50, [], 0), (60, [3, 3], 0), (4, [0], 0), (2, [1], 0), (2, [3], 0), (80, [54, 2], 0), (80, [190, 2], 0), (8, [3], 1), (63, [2], 0)],
  [(4, [0], 0), (42, [3, 7, 17, 1, 0], 0), (2, [1], 0), (33, [], 0), (50, [], 0), (0, [], 1), (11, [], 0), (51, [], 0), (72, [], 0)]]
def cd_P_bringDown : List (List qm_Ins) := [
  [(4, [0], 0), (42, [3, 1, 11, 1, 0], 0), (2, [1], 0), (4, [0], 0), (42, [3, 1, 11, 1, 0], 0), (2, [1], 0), (0, [], 1), (10, [], 0), (50, [], 0), (51, [], 0), (4, [0], 0), (42, [3, 2, 12, 1, 0], 0), (2, [1], 0), (4, [0], 0), (42, [3, 2, 12, 1, 0], 0), (2, [1], 0), (0, [], 1), (10, [], 0), (50, [], 0), (51, [], 0), (4, [0], 0), (42, [3, 3, 13, 1, 0], 0), (2, [1], 0), (4, [0], 0), (42, [3, 3, 13, 1, 0], 0), (2, [1], 0), (0, [], 1), (10, [], 0), (50, [], 0), (51, [], 0), (4, [0], 0), (42, [3, 4, 14, 1, 0], 0), (2, [1], 0), (4, [0], 0), (42, [3, 4, 14, 1, 0], 0), (2, [1], 0), (0, [], 1), (10, [], 0), (50, [], 0), (51, [], 0), (4, [0], 0), (42, [3, 5, 15, 1, 0], 0), (2, [1], 0), (4, [0], 0), (42, [3, 5, 15, 1, 0], 0), (2, [1], 0), (0, [], 1), (10, [], 0), (50, [], 0), (51, [], 0), (4, [0], 0), (42, [3, 6, 16, 1, 0], 0), (2, [1], 0), (4, [0], 0), (42, [3, 6, 16, 1, 0], 0), (2, [1], 0), (0, [], 1), (10, [], 0), (50, [], 0), (51, [], 0), (72, [], 0)]]
def cd_P_turnBark : List (List qm_Ins) := [
  [(0, [], 0), (5, [2], 0), (64, [1], 0)],
  [(2, [2], 0), (0, [], 48), (60, [3, 2], 0), (4, [0], 0), (42, [3, 4, 14, 1, 0], 0), (2, [2], 0), (2, [1], 0), (51, [], 0), (8, [2], 1), (63, [1], 0)],
  [(72, [], 0)]]
def cd_P_splits : List (List qm_Ins) := [
  [(0, [], 0), (5, [1], 0), (0, [], 0), (5, [2], 0), (64, [1], 0)],
  [(2, [2], 0), (4, [0], 0), (40, [3, 0], 0), (60, [3, 2], 0), (2, [1], 0), (4, [0], 0), (42, [3, 7, 17, 1, 0], 0), (2, [2], 0), (50, [], 0), (10, [], 0), (5, [1], 0), (8, [2], 1), (63, [1], 0)],
  [(2, [1], 0), (70, [], 0)]]
def cd_P_drySplits : List (List qm_Ins) := [
  [(0, [], 0), (5, [1], 0), (0, [], 0), (5, [2], 0), (64, [1], 0)],
  [(2, [2], 0), (4, [0], 0), (40, [3, 0], 0), (60, [3, 6], 0), (0, [], 0), (5, [3], 0), (64, [2], 0)],
  [(2, [3], 0), (4, [0], 0), (42, [3, 7, 17, 1, 0], 0), (2, [2], 0), (50, [], 0), (60, [3, 5], 0), (2, [1], 0), (4, [0], 0), (42, [3, 3, 13, 1, 0], 0), (2, [2], 0), (2, [3], 0), (80, [54, 2], 0), (50, [], 0), (80, [52, 1], 0), (61, [0, 3], 0), (0, [], 1), (63, [4], 0)],
  [(0, [], 0), (64, [4], 0)],
  [(10, [], 0), (5, [1], 0), (8, [3], 1), (63, [2], 0)],
  [(8, [2], 1), (63, [1], 0)],
  [(2, [1], 0), (70, [], 0)]]
def cd_P_tallest : List (List qm_Ins) := [
  [(0, [], 0), (5, [1], 0), (0, [], 0), (5, [2], 0), (64, [1], 0)],
  [(2, [2], 0), (4, [0], 0), (40, [3, 0], 0), (60, [3, 2], 0), (2, [1], 0), (4, [0], 0), (42, [3, 7, 17, 1, 0], 0), (2, [2], 0), (50, [], 0), (81, [], 0), (5, [1], 0), (8, [2], 1), (63, [1], 0)],
  [(2, [1], 0), (70, [], 0)]]
def cd_P_isTop : List (List qm_Ins) := [
  [(4, [0], 0), (80, [185, 1], 0), (61, [1, 1], 0), (2, [2], 0), (0, [], 1), (10, [], 0), (4, [0], 0), (42, [3, 7, 17, 1, 0], 0), (2, [1], 0), (50, [], 0), (60, [2, 2], 0), (64, [1], 0)],
  [(0, [], 1), (63, [3], 0)],
  [(0, [], 0), (64, [3], 0)],
  [(70, [], 0)]]
def cd_P_besideOf : List (List qm_Ins) := [
  [(4, [0], 0), (80, [185, 1], 0), (61, [0, 1], 0), (0, [], 4), (70, [], 0)],
  [(2, [2], 0), (61, [5, 2], 0), (0, [], 1), (63, [3], 0)],
  [(0, [], 0), (64, [3], 0)],
  [(5, [3], 0), (2, [3], 0), (2, [2], 0), (0, [], 1), (10, [], 0), (4, [0], 0), (42, [3, 7, 17, 1, 0], 0), (2, [1], 0), (50, [], 0), (60, [3, 4], 0), (0, [], 1), (63, [5], 0)],
  [(0, [], 0), (64, [5], 0)],
  [(10, [], 0), (5, [3], 0), (2, [3], 0), (2, [1], 0), (61, [5, 6], 0), (2, [2], 0), (4, [0], 0), (42, [3, 7, 17, 1, 0], 0), (2, [1], 0), (0, [], 1), (11, [], 0), (50, [], 0), (60, [3, 6], 0), (0, [], 1), (63, [7], 0)],
  [(0, [], 0), (64, [7], 0)],
  [(10, [], 0), (5, [3], 0), (2, [3], 0), (2, [1], 0), (0, [], 1), (10, [], 0), (4, [0], 0), (40, [3, 0], 0), (60, [3, 8], 0), (2, [2], 0), (4, [0], 0), (42, [3, 7, 17, 1, 0], 0), (2, [1], 0), (0, [], 1), (10, [], 0), (50, [], 0), (60, [3, 8], 0), (0, [], 1), (63, [9], 0)],
  [(0, [], 0), (64, [9], 0)],
  [(10, [], 0), (5, [3], 0), (2, [3], 0), (70, [], 0)]]
def cd_P_isSunny : List (List qm_Ins) := [
  [(2, [1], 0), (4, [0], 0), (40, [3, 12], 0), (61, [1, 1], 0), (0, [], 0), (63, [2], 0)],
  [(4, [0], 0), (40, [3, 0], 0), (0, [], 1), (11, [], 0), (64, [2], 0)],
  [(60, [1, 3], 0), (0, [], 1), (63, [4], 0)],
  [(0, [], 0), (64, [4], 0)],
  [(70, [], 0)]]
def cd_R_readAll : List (List qm_Ins) := [
  [(4, [0], 0), (42, [6, 0, 7, 0, 0], 0), (4, [1], 0), (2, [2], 0), (80, [229, 3], 0), (4, [3], 0), (80, [222, 1], 0), (4, [0], 0), (4, [3], 0), (46, [6, 1, 4], 0), (4, [0], 0), (0, [], 0), (44, [6, 2], 0), (4, [0], 0), (0, [], 0), (44, [6, 4], 0), (4, [0], 0), (0, [], -1), (44, [6, 5], 0), (0, [], 0), (5, [4], 0), (64, [1], 0)],
  [(2, [4], 0), (0, [], 20), (60, [4, 2], 0), (4, [0], 0), (40, [6, 4], 0), (61, [1, 2], 0), (4, [0], 0), (80, [200, 1], 0), (0, [], 41), (60, [0, 2], 0), (4, [0], 0), (2, [4], 0), (80, [206, 2], 0), (8, [4], 1), (63, [1], 0)],
  [(72, [], 0)]]
def cd_R_token : List (List qm_Ins) := [
  [(4, [0], 0), (40, [6, 2], 0), (0, [], 0), (4, [0], 0), (42, [6, 0, 7, 0, 0], 0), (40, [7, 3], 0), (0, [], 1), (11, [], 0), (80, [53, 3], 0), (61, [0, 1], 0), (4, [0], 0), (42, [6, 0, 7, 0, 0], 0), (42, [7, 0, 43, 0, 0], 0), (4, [0], 0), (40, [6, 2], 0), (50, [], 0), (63, [2], 0)],
  [(0, [], 41), (64, [2], 0)],
  [(70, [], 0)]]
def cd_R_number : List (List qm_Ins) := [
  [(4, [0], 0), (40, [6, 2], 0), (0, [], 0), (4, [0], 0), (42, [6, 0, 7, 0, 0], 0), (40, [7, 3], 0), (0, [], 1), (11, [], 0), (80, [53, 3], 0), (61, [0, 1], 0), (4, [0], 0), (42, [6, 0, 7, 0, 0], 0), (42, [7, 1, 44, 0, 0], 0), (4, [0], 0), (40, [6, 2], 0), (50, [], 0), (63, [2], 0)],
  [(0, [], 0), (64, [2], 0)],
  [(70, [], 0)]]
def cd_R_step : List (List qm_Ins) := [
  [(4, [0], 0), (40, [6, 4], 0), (61, [1, 1], 0), (4, [0], 0), (40, [6, 2], 0), (0, [], 1), (10, [], 0), (4, [0], 0), (42, [6, 0, 7, 0, 0], 0), (40, [7, 3], 0), (60, [3, 1], 0), (4, [0], 0), (32, [], 0), (40, [6, 2], 0), (0, [], 1), (10, [], 0), (44, [6, 2], 0), (64, [1], 0)],
  [(72, [], 0)]]
def cd_R_fail : List (List qm_Ins) := [
  [(4, [0], 0), (40, [6, 4], 0), (61, [1, 3], 0), (4, [0], 0), (2, [1], 0), (44, [6, 4], 0), (4, [0], 0), (4, [0], 0), (40, [6, 2], 0), (0, [], 0), (4, [0], 0), (42, [6, 0, 7, 0, 0], 0), (40, [7, 3], 0), (0, [], 1), (11, [], 0), (80, [53, 3], 0), (61, [0, 1], 0), (4, [0], 0), (42, [6, 0, 7, 0, 0], 0), (42, [7, 2, 45, 0, 0], 0), (4, [0], 0), (40, [6, 2], 0), (50, [], 0), (63, [2], 0)],
  [(0, [], 0), (64, [2], 0)],
  [(44, [6, 5], 0), (64, [3], 0)],
  [(72, [], 0)]]
def cd_R_expect : List (List qm_Ins) := [
  [(4, [0], 0), (80, [200, 1], 0), (2, [1], 0), (60, [1, 1], 0), (4, [0], 0), (80, [202, 1], 0), (63, [2], 0)],
  [(4, [0], 0), (0, [], 1), (80, [203, 2], 0), (64, [2], 0)],
  [(72, [], 0)]]
def cd_R_emit : List (List qm_Ins) := [
  [(4, [0], 0), (40, [6, 4], 0), (61, [1, 1], 0), (4, [0], 0), (43, [6, 1], 0), (62, [1], 0), (4, [0], 0), (43, [6, 1], 0), (2, [1], 0), (80, [224, 2], 0), (64, [1], 0)],
  [(72, [], 0)]]
def cd_R_readClause : List (List qm_Ins) := [
  [(4, [0], 0), (4, [0], 0), (80, [200, 1], 0), (44, [6, 3], 0), (4, [0], 0), (43, [6, 1], 0), (62, [1], 0), (4, [0], 0), (40, [6, 3], 0), (0, [], 17), (0, [], 23), (80, [53, 3], 0), (61, [1, 2], 0), (64, [1], 0)],
  [(4, [0], 0), (0, [], 1), (80, [203, 2], 0), (63, [10], 0)],
  [(4, [0], 0), (43, [6, 1], 0), (4, [0], 0), (40, [6, 3], 0), (80, [225, 2], 0), (0, [], -1), (60, [0, 3], 0), (4, [0], 0), (0, [], 4), (80, [203, 2], 0), (63, [10], 0)],
  [(2, [1], 0), (0, [], 20), (60, [3, 4], 0), (4, [0], 0), (43, [6, 1], 0), (4, [0], 0), (40, [6, 3], 0), (80, [223, 2], 0), (61, [1, 5], 0), (64, [4], 0)],
  [(4, [0], 0), (0, [], 6), (80, [203, 2], 0), (63, [10], 0)],
  [(4, [0], 0), (80, [202, 1], 0), (4, [0], 0), (40, [6, 3], 0), (0, [], 23), (60, [1, 6], 0), (4, [0], 0), (80, [207, 1], 0), (63, [9], 0)],
  [(4, [0], 0), (4, [0], 0), (40, [6, 3], 0), (0, [], 22), (60, [1, 7], 0), (0, [], 0), (63, [8], 0)],
  [(0, [], 3), (64, [8], 0)],
  [(0, [], 0), (80, [209, 3], 0), (64, [9], 0)],
  [(4, [0], 0), (0, [], 56), (80, [204, 2], 0), (64, [10], 0)],
  [(72, [], 0)]]
def cd_R_readLay : List (List qm_Ins) := [
  [(4, [0], 0), (0, [], 0), (0, [], 3), (80, [208, 3], 0), (4, [0], 0), (0, [], 55), (80, [204, 2], 0), (4, [0], 0), (0, [], 1), (0, [], 20), (80, [208, 3], 0), (4, [0], 0), (0, [], 55), (80, [204, 2], 0), (4, [0], 0), (0, [], 0), (0, [], 2000), (80, [208, 3], 0), (4, [0], 0), (0, [], 29), (80, [204, 2], 0), (4, [0], 0), (0, [], 0), (0, [], 5), (80, [208, 3], 0), (72, [], 0)]]
def cd_R_readTold : List (List qm_Ins) := [
  [(4, [0], 0), (80, [200, 1], 0), (0, [], 40), (60, [0, 1], 0), (4, [0], 0), (0, [], 1), (80, [203, 2], 0), (63, [3], 0)],
  [(4, [0], 0), (80, [201, 1], 0), (2, [1], 0), (2, [2], 0), (80, [53, 3], 0), (61, [1, 2], 0), (4, [0], 0), (0, [], 2), (80, [203, 2], 0), (63, [3], 0)],
  [(4, [0], 0), (4, [0], 0), (80, [201, 1], 0), (80, [205, 2], 0), (4, [0], 0), (80, [202, 1], 0), (64, [3], 0)],
  [(72, [], 0)]]
def cd_R_readPart : List (List qm_Ins) := [
  [(4, [0], 0), (40, [6, 4], 0), (61, [1, 1], 0), (2, [2], 0), (0, [], 8), (60, [5, 2], 0), (64, [1], 0)],
  [(72, [], 0)],
  [(2, [1], 0), (0, [], 2), (60, [1, 3], 0), (4, [0], 0), (2, [2], 0), (80, [211, 2], 0), (63, [6], 0)],
  [(2, [1], 0), (0, [], 5), (60, [2, 4], 0), (4, [0], 0), (2, [2], 0), (80, [213, 2], 0), (63, [6], 0)],
  [(4, [0], 0), (2, [1], 0), (0, [], 1), (10, [], 0), (2, [2], 0), (80, [209, 3], 0), (0, [], 0), (5, [3], 0), (64, [5], 0)],
  [(2, [3], 0), (0, [], 300), (60, [3, 6], 0), (4, [0], 0), (40, [6, 4], 0), (61, [1, 6], 0), (4, [0], 0), (80, [200, 1], 0), (80, [210, 1], 0), (2, [1], 0), (60, [1, 6], 0), (4, [0], 0), (80, [200, 1], 0), (5, [4], 0), (4, [0], 0), (80, [202, 1], 0), (4, [0], 0), (2, [1], 0), (0, [], 1), (10, [], 0), (2, [2], 0), (80, [209, 3], 0), (4, [0], 0), (0, [], 20000), (2, [4], 0), (10, [], 0), (80, [205, 2], 0), (8, [3], 1), (63, [5], 0)],
  [(72, [], 0)]]
def cd_R_levelOf : List (List qm_Ins) := [
  [(2, [0], 0), (66, [5, 27, 2, 28, 1, 49, 3, 50, 3, 51, 4, 52, 4], 0)],
  [(0, [], 0), (70, [], 0)],
  [(0, [], 1), (70, [], 0)],
  [(0, [], 3), (70, [], 0)],
  [(0, [], 4), (70, [], 0)],
  [(0, [], -1), (70, [], 0)]]
def cd_R_readAsk : List (List qm_Ins) := [
  [(4, [0], 0), (80, [200, 1], 0), (0, [], 26), (60, [1, 2], 0), (4, [0], 0), (2, [1], 0), (80, [212, 2], 0), (61, [0, 1], 0), (4, [0], 0), (0, [], 2), (2, [1], 0), (0, [], 1), (10, [], 0), (80, [209, 3], 0), (4, [0], 0), (0, [], 20026), (80, [205, 2], 0), (64, [1], 0)],
  [(72, [], 0)],
  [(4, [0], 0), (0, [], 3), (2, [1], 0), (80, [209, 3], 0), (4, [0], 0), (80, [200, 1], 0), (5, [2], 0), (2, [2], 0), (0, [], 43), (0, [], 48), (80, [53, 3], 0), (61, [1, 3], 0), (4, [0], 0), (0, [], 1), (80, [203, 2], 0), (72, [], 0)],
  [(4, [0], 0), (80, [202, 1], 0), (4, [0], 0), (0, [], 3), (2, [1], 0), (80, [209, 3], 0), (4, [0], 0), (0, [], 20000), (2, [2], 0), (10, [], 0), (80, [205, 2], 0), (72, [], 0)]]
def cd_R_opens : List (List qm_Ins) := [
  [(2, [1], 0), (0, [], 8), (60, [2, 1], 0), (4, [0], 0), (0, [], 3), (80, [203, 2], 0), (0, [], 0), (70, [], 0)],
  [(4, [0], 0), (80, [202, 1], 0), (0, [], 1), (70, [], 0)]]
def cd_R_readOne : List (List qm_Ins) := [
  [(4, [0], 0), (80, [200, 1], 0), (5, [2], 0), (2, [2], 0), (0, [], 40), (60, [1, 1], 0), (4, [0], 0), (0, [], 0), (0, [], 9999), (80, [208, 3], 0), (63, [7], 0)],
  [(2, [2], 0), (0, [], 0), (0, [], 16), (80, [53, 3], 0), (61, [0, 2], 0), (4, [0], 0), (2, [2], 0), (80, [214, 2], 0), (63, [7], 0)],
  [(2, [2], 0), (0, [], 24), (60, [0, 3], 0), (2, [2], 0), (0, [], 25), (60, [1, 4], 0), (64, [3], 0)],
  [(4, [0], 0), (2, [2], 0), (2, [1], 0), (80, [216, 3], 0), (63, [7], 0)],
  [(2, [2], 0), (0, [], 53), (60, [1, 5], 0), (4, [0], 0), (2, [1], 0), (80, [212, 2], 0), (61, [0, 7], 0), (4, [0], 0), (0, [], 3), (2, [1], 0), (0, [], 1), (10, [], 0), (80, [209, 3], 0), (4, [0], 0), (0, [], 54), (80, [204, 2], 0), (63, [7], 0)],
  [(2, [2], 0), (0, [], 50), (60, [1, 6], 0), (4, [0], 0), (2, [1], 0), (80, [212, 2], 0), (61, [0, 7], 0), (4, [0], 0), (0, [], 5), (2, [1], 0), (0, [], 1), (10, [], 0), (80, [209, 3], 0), (4, [0], 0), (0, [], 20057), (80, [205, 2], 0), (63, [7], 0)],
  [(4, [0], 0), (0, [], 1), (80, [203, 2], 0), (64, [7], 0)],
  [(72, [], 0)]]
def cd_R_readName : List (List qm_Ins) := [
  [(4, [0], 0), (2, [1], 0), (80, [215, 2], 0), (61, [0, 1], 0), (4, [0], 0), (0, [], 10000), (2, [1], 0), (10, [], 0), (80, [205, 2], 0), (4, [0], 0), (80, [202, 1], 0), (63, [2], 0)],
  [(4, [0], 0), (0, [], 5), (80, [203, 2], 0), (64, [2], 0)],
  [(72, [], 0)]]
def cd_R_isNameOfClause : List (List qm_Ins) := [
  [(2, [1], 0), (0, [], 12), (60, [1, 1], 0), (0, [], 1), (70, [], 0)],
  [(4, [0], 0), (40, [6, 3], 0), (0, [], 19), (60, [1, 4], 0), (2, [1], 0), (0, [], 13), (60, [2, 2], 0), (0, [], 1), (63, [3], 0)],
  [(0, [], 0), (64, [3], 0)],
  [(70, [], 0)],
  [(4, [0], 0), (40, [6, 3], 0), (0, [], 17), (60, [1, 6], 0), (2, [1], 0), (0, [], 12), (60, [3, 5], 0), (0, [], 1), (63, [8], 0)],
  [(0, [], 0), (63, [8], 0)],
  [(2, [1], 0), (0, [], 7), (60, [4, 7], 0), (0, [], 1), (63, [8], 0)],
  [(0, [], 0), (64, [8], 0)],
  [(70, [], 0)]]
def cd_R_readPair : List (List qm_Ins) := [
  [(4, [0], 0), (80, [202, 1], 0), (4, [0], 0), (80, [200, 1], 0), (0, [], 53), (60, [0, 1], 0), (4, [0], 0), (0, [], 1), (80, [203, 2], 0), (63, [2], 0)],
  [(4, [0], 0), (2, [2], 0), (80, [212, 2], 0), (61, [0, 2], 0), (4, [0], 0), (0, [], 3), (2, [2], 0), (0, [], 1), (10, [], 0), (80, [209, 3], 0), (4, [0], 0), (0, [], 55), (80, [204, 2], 0), (4, [0], 0), (0, [], 3), (2, [2], 0), (0, [], 1), (10, [], 0), (80, [209, 3], 0), (4, [0], 0), (0, [], 54), (80, [204, 2], 0), (4, [0], 0), (0, [], 20000), (2, [1], 0), (10, [], 0), (80, [205, 2], 0), (64, [2], 0)],
  [(72, [], 0)]]
def cd_S_begin : List (List qm_Ins) := [
  [(4, [0], 0), (0, [], -1), (44, [8, 3], 0), (4, [0], 0), (0, [], 0), (44, [8, 4], 0), (4, [0], 0), (42, [8, 0, 46, 0, 0], 0), (0, [], 0), (56, [], 0), (4, [1], 0), (80, [184, 2], 0), (72, [], 0)]]
def cd_S_tryFrom : List (List qm_Ins) := [
  [(2, [1], 0), (2, [3], 0), (60, [3, 1], 0), (2, [1], 0), (0, [], 5), (60, [2, 2], 0), (64, [1], 0)],
  [(4, [0], 0), (2, [1], 0), (2, [2], 0), (80, [220, 3], 0), (72, [], 0)],
  [(4, [0], 0), (42, [8, 0, 46, 0, 0], 0), (2, [1], 0), (56, [], 0), (7, [6], 0), (0, [], 0), (5, [7], 0), (64, [3], 0)],
  [(2, [7], 0), (4, [6], 0), (40, [3, 0], 0), (60, [3, 6], 0), (4, [6], 0), (42, [3, 7, 17, 1, 0], 0), (2, [7], 0), (50, [], 0), (0, [], 1), (11, [], 0), (5, [8], 0), (2, [8], 0), (61, [2, 5], 0), (4, [0], 0), (42, [8, 1, 47, 0, 0], 0), (2, [1], 0), (2, [7], 0), (51, [], 0), (4, [5], 0), (4, [6], 0), (2, [7], 0), (2, [8], 0), (80, [167, 4], 0), (5, [9], 0), (2, [1], 0), (0, [], 1), (10, [], 0), (2, [3], 0), (60, [3, 4], 0), (2, [1], 0), (0, [], 1), (10, [], 0), (0, [], 5), (60, [3, 4], 0), (4, [0], 0), (42, [8, 0, 46, 0, 0], 0), (2, [1], 0), (0, [], 1), (10, [], 0), (56, [], 0), (4, [6], 0), (80, [184, 2], 0), (4, [0], 0), (42, [8, 0, 46, 0, 0], 0), (2, [1], 0), (0, [], 1), (10, [], 0), (56, [], 0), (2, [7], 0), (2, [8], 0), (80, [189, 3], 0), (4, [5], 0), (4, [0], 0), (42, [8, 0, 46, 0, 0], 0), (2, [1], 0), (0, [], 1), (10, [], 0), (56, [], 0), (4, [4], 0), (4, [4], 0), (42, [2, 6, 25, 1, 0], 0), (2, [1], 0), (50, [], 0), (80, [175, 4], 0), (64, [4], 0)],
  [(4, [0], 0), (2, [1], 0), (0, [], 1), (10, [], 0), (2, [2], 0), (2, [9], 0), (10, [], 0), (2, [3], 0), (4, [4], 0), (4, [5], 0), (80, [219, 6], 0), (64, [5], 0)],
  [(8, [7], 1), (63, [3], 0)],
  [(72, [], 0)]]
def cd_S_note : List (List qm_Ins) := [
  [(2, [2], 0), (4, [0], 0), (40, [8, 3], 0), (60, [5, 1], 0), (4, [0], 0), (2, [2], 0), (44, [8, 3], 0), (4, [0], 0), (2, [1], 0), (44, [8, 4], 0), (4, [0], 0), (42, [8, 1, 47, 0, 0], 0), (0, [], 0), (4, [0], 0), (42, [8, 2, 48, 0, 0], 0), (0, [], 0), (0, [], 5), (86, [], 0), (64, [1], 0)],
  [(72, [], 0)]]
def cd_T_clear : List (List qm_Ins) := [
  [(0, [], 0), (5, [1], 0), (64, [1], 0)],
  [(2, [1], 0), (4, [0], 0), (42, [4, 4, 35, 1, 0], 0), (57, [], 0), (60, [3, 2], 0), (4, [0], 0), (42, [4, 4, 35, 1, 0], 0), (2, [1], 0), (0, [], -1), (51, [], 0), (8, [1], 1), (63, [1], 0)],
  [(4, [0], 0), (0, [], 0), (44, [4, 5], 0), (4, [0], 0), (0, [], 0), (44, [4, 6], 0), (72, [], 0)]]
def cd_T_begin : List (List qm_Ins) := [
  [(4, [0], 0), (40, [4, 6], 0), (0, [], 20), (60, [2, 1], 0), (0, [], 0), (70, [], 0)],
  [(4, [0], 0), (42, [4, 1, 32, 1, 0], 0), (4, [0], 0), (40, [4, 6], 0), (2, [1], 0), (51, [], 0), (4, [0], 0), (42, [4, 2, 33, 1, 0], 0), (4, [0], 0), (40, [4, 6], 0), (4, [0], 0), (40, [4, 5], 0), (51, [], 0), (4, [0], 0), (42, [4, 3, 34, 1, 0], 0), (4, [0], 0), (40, [4, 6], 0), (4, [0], 0), (40, [4, 5], 0), (51, [], 0), (2, [1], 0), (80, [227, 1], 0), (61, [0, 2], 0), (4, [0], 0), (42, [4, 4, 35, 1, 0], 0), (2, [1], 0), (0, [], 17), (11, [], 0), (4, [0], 0), (40, [4, 6], 0), (51, [], 0), (64, [2], 0)],
  [(4, [0], 0), (32, [], 0), (40, [4, 6], 0), (0, [], 1), (10, [], 0), (44, [4, 6], 0), (0, [], 1), (70, [], 0)]]
def cd_T_emit : List (List qm_Ins) := [
  [(4, [0], 0), (40, [4, 6], 0), (61, [5, 1], 0), (4, [0], 0), (40, [4, 5], 0), (0, [], 300), (60, [3, 1], 0), (4, [0], 0), (42, [4, 0, 31, 1, 0], 0), (4, [0], 0), (40, [4, 5], 0), (2, [1], 0), (51, [], 0), (4, [0], 0), (32, [], 0), (40, [4, 5], 0), (0, [], 1), (10, [], 0), (44, [4, 5], 0), (4, [0], 0), (42, [4, 3, 34, 1, 0], 0), (4, [0], 0), (40, [4, 6], 0), (0, [], 1), (11, [], 0), (4, [0], 0), (40, [4, 5], 0), (51, [], 0), (64, [1], 0)],
  [(72, [], 0)]]
def cd_T_clauseOf : List (List qm_Ins) := [
  [(2, [1], 0), (80, [227, 1], 0), (61, [0, 1], 0), (4, [0], 0), (42, [4, 4, 35, 1, 0], 0), (2, [1], 0), (0, [], 17), (11, [], 0), (50, [], 0), (63, [2], 0)],
  [(0, [], -1), (64, [2], 0)],
  [(70, [], 0)]]
def cd_T_codeAt : List (List qm_Ins) := [
  [(4, [0], 0), (42, [4, 2, 33, 1, 0], 0), (2, [1], 0), (50, [], 0), (2, [2], 0), (10, [], 0), (5, [3], 0), (2, [3], 0), (0, [], 0), (0, [], 299), (80, [53, 3], 0), (61, [0, 1], 0), (4, [0], 0), (42, [4, 0, 31, 1, 0], 0), (2, [3], 0), (50, [], 0), (63, [2], 0)],
  [(0, [], -1), (64, [2], 0)],
  [(70, [], 0)]]
def cd_T_standsOnce : List (List qm_Ins) := [
  [(2, [0], 0), (0, [], 17), (0, [], 21), (80, [53, 3], 0), (70, [], 0)]]
def cd_K_cut : List (List qm_Ins) := [
  [(4, [0], 0), (0, [], 0), (44, [7, 3], 0), (0, [], 0), (5, [3], 0), (0, [], 0), (5, [4], 0), (64, [1], 0)],
  [(2, [4], 0), (2, [2], 0), (60, [3, 7], 0), (2, [3], 0), (2, [2], 0), (60, [3, 7], 0), (4, [1], 0), (2, [3], 0), (50, [], 0), (5, [5], 0), (2, [5], 0), (0, [], 32), (60, [0, 2], 0), (2, [5], 0), (0, [], 10), (60, [1, 3], 0), (64, [2], 0)],
  [(8, [3], 1), (63, [6], 0)],
  [(2, [5], 0), (80, [236, 1], 0), (61, [0, 4], 0), (4, [0], 0), (4, [1], 0), (2, [3], 0), (2, [2], 0), (80, [231, 4], 0), (5, [3], 0), (63, [6], 0)],
  [(2, [5], 0), (80, [237, 1], 0), (61, [0, 5], 0), (4, [0], 0), (4, [1], 0), (2, [3], 0), (2, [2], 0), (80, [233, 4], 0), (5, [3], 0), (63, [6], 0)],
  [(4, [0], 0), (4, [1], 0), (2, [3], 0), (2, [2], 0), (80, [234, 4], 0), (5, [3], 0), (64, [6], 0)],
  [(8, [4], 1), (63, [1], 0)],
  [(4, [0], 0), (0, [], 41), (0, [], 0), (2, [2], 0), (80, [230, 4], 0), (72, [], 0)]]
def cd_K_add : List (List qm_Ins) := [
  [(4, [0], 0), (40, [7, 3], 0), (0, [], 300), (60, [4, 1], 0), (4, [0], 0), (42, [7, 0, 43, 0, 0], 0), (4, [0], 0), (40, [7, 3], 0), (2, [1], 0), (51, [], 0), (4, [0], 0), (42, [7, 1, 44, 0, 0], 0), (4, [0], 0), (40, [7, 3], 0), (2, [2], 0), (51, [], 0), (4, [0], 0), (42, [7, 2, 45, 0, 0], 0), (4, [0], 0), (40, [7, 3], 0), (2, [3], 0), (51, [], 0), (4, [0], 0), (32, [], 0), (40, [7, 3], 0), (0, [], 1), (10, [], 0), (44, [7, 3], 0), (64, [1], 0)],
  [(72, [], 0)]]
def cd_K_cutWord : List (List qm_Ins) := [
  [(2, [2], 0), (5, [4], 0), (64, [1], 0)],
  [(2, [4], 0), (2, [3], 0), (60, [3, 2], 0), (4, [1], 0), (2, [4], 0), (50, [], 0), (80, [236, 1], 0), (61, [0, 2], 0), (8, [4], 1), (63, [1], 0)],
  [(4, [0], 0), (4, [1], 0), (2, [2], 0), (2, [4], 0), (80, [232, 3], 0), (0, [], 0), (2, [2], 0), (80, [230, 4], 0), (2, [4], 0), (70, [], 0)]]
def cd_K_wordOf : List (List qm_Ins) := [
  [(0, [], 0), (5, [3], 0), (0, [], 0), (5, [4], 0), (0, [], 1), (5, [5], 0), (0, [], 0), (5, [6], 0), (64, [1], 0)],
  [(2, [6], 0), (58, [], 0), (87, [], 0), (60, [3, 7], 0), (58, [], 0), (2, [6], 0), (88, [], 0), (5, [7], 0), (2, [7], 0), (0, [], 32), (60, [1, 3], 0), (2, [5], 0), (61, [0, 2], 0), (2, [1], 0), (2, [4], 0), (10, [], 0), (2, [2], 0), (60, [1, 2], 0), (2, [3], 0), (70, [], 0)],
  [(8, [3], 1), (0, [], 0), (5, [4], 0), (0, [], 1), (5, [5], 0), (63, [6], 0)],
  [(2, [5], 0), (61, [0, 4], 0), (2, [1], 0), (2, [4], 0), (10, [], 0), (2, [2], 0), (60, [3, 4], 0), (4, [0], 0), (2, [1], 0), (2, [4], 0), (10, [], 0), (50, [], 0), (2, [7], 0), (60, [1, 4], 0), (0, [], 1), (63, [5], 0)],
  [(0, [], 0), (64, [5], 0)],
  [(5, [5], 0), (8, [4], 1), (64, [6], 0)],
  [(8, [6], 1), (63, [1], 0)],
  [(0, [], 42), (70, [], 0)]]
def cd_K_cutNumber : List (List qm_Ins) := [
  [(2, [2], 0), (5, [4], 0), (0, [], 0), (5, [5], 0), (64, [1], 0)],
  [(2, [4], 0), (2, [3], 0), (60, [3, 2], 0), (4, [1], 0), (2, [4], 0), (50, [], 0), (80, [237, 1], 0), (61, [0, 2], 0), (0, [], 10000), (2, [5], 0), (0, [], 10), (12, [], 0), (4, [1], 0), (2, [4], 0), (50, [], 0), (10, [], 0), (0, [], 48), (11, [], 0), (82, [], 0), (5, [5], 0), (8, [4], 1), (63, [1], 0)],
  [(4, [0], 0), (0, [], 40), (2, [5], 0), (2, [2], 0), (80, [230, 4], 0), (2, [4], 0), (70, [], 0)]]
def cd_K_cutSign : List (List qm_Ins) := [
  [(2, [2], 0), (0, [], 1), (10, [], 0), (2, [3], 0), (60, [3, 1], 0), (4, [1], 0), (2, [2], 0), (0, [], 1), (10, [], 0), (50, [], 0), (0, [], 61), (60, [1, 1], 0), (0, [], 1), (63, [2], 0)],
  [(0, [], 0), (64, [2], 0)],
  [(5, [4], 0), (2, [4], 0), (61, [0, 3], 0), (4, [1], 0), (2, [2], 0), (50, [], 0), (0, [], 60), (60, [1, 3], 0), (4, [0], 0), (0, [], 44), (0, [], 0), (2, [2], 0), (80, [230, 4], 0), (2, [2], 0), (0, [], 2), (10, [], 0), (70, [], 0)],
  [(2, [4], 0), (61, [0, 4], 0), (4, [1], 0), (2, [2], 0), (50, [], 0), (0, [], 62), (60, [1, 4], 0), (4, [0], 0), (0, [], 46), (0, [], 0), (2, [2], 0), (80, [230, 4], 0), (2, [2], 0), (0, [], 2), (10, [], 0), (70, [], 0)],
  [(4, [0], 0), (4, [1], 0), (2, [2], 0), (50, [], 0), (80, [235, 1], 0), (0, [], 0), (2, [2], 0), (80, [230, 4], 0), (2, [2], 0), (0, [], 1), (10, [], 0), (70, [], 0)]]
def cd_K_signOf : List (List qm_Ins) := [
  [(2, [0], 0), (65, [13, 4, 13, 13, 13, 13, 9, 10, 7, 5, 11, 6, 13, 8, 13, 13, 13, 13, 13, 13, 13, 13, 13, 13, 13, 12, 1, 3, 2], 35)],
  [(0, [], 43), (70, [], 0)],
  [(0, [], 45), (70, [], 0)],
  [(0, [], 47), (70, [], 0)],
  [(0, [], 48), (70, [], 0)],
  [(0, [], 49), (70, [], 0)],
  [(0, [], 50), (70, [], 0)],
  [(0, [], 51), (70, [], 0)],
  [(0, [], 52), (70, [], 0)],
  [(0, [], 53), (70, [], 0)],
  [(0, [], 54), (70, [], 0)],
  [(0, [], 55), (70, [], 0)],
  [(0, [], 56), (70, [], 0)],
  [(0, [], 42), (70, [], 0)]]
def cd_K_isLetter : List (List qm_Ins) := [
  [(2, [0], 0), (0, [], 97), (0, [], 122), (80, [53, 3], 0), (61, [1, 1], 0), (2, [0], 0), (0, [], 65), (0, [], 90), (80, [53, 3], 0), (61, [0, 2], 0), (64, [1], 0)],
  [(0, [], 1), (63, [3], 0)],
  [(0, [], 0), (64, [3], 0)],
  [(70, [], 0)]]
def cd_K_isDigit : List (List qm_Ins) := [
  [(2, [0], 0), (0, [], 48), (0, [], 57), (80, [53, 3], 0), (70, [], 0)]]
def cd_Y_become : List (List qm_Ins) := [
  [(4, [0], 0), (42, [2, 0, 3, 1, 0], 0), (4, [1], 0), (42, [2, 0, 3, 1, 0], 0), (80, [184, 2], 0), (4, [1], 0), (42, [2, 1, 21, 1, 0], 0), (0, [], 0), (4, [0], 0), (42, [2, 1, 21, 1, 0], 0), (0, [], 0), (0, [], 12), (86, [], 0), (4, [1], 0), (42, [2, 2, 22, 1, 0], 0), (0, [], 0), (4, [0], 0), (42, [2, 2, 22, 1, 0], 0), (0, [], 0), (0, [], 12), (86, [], 0), (4, [1], 0), (42, [2, 3, 23, 1, 0], 0), (0, [], 0), (4, [0], 0), (42, [2, 3, 23, 1, 0], 0), (0, [], 0), (0, [], 12), (86, [], 0), (4, [1], 0), (42, [2, 4, 24, 1, 0], 0), (0, [], 0), (4, [0], 0), (42, [2, 4, 24, 1, 0], 0), (0, [], 0), (0, [], 12), (86, [], 0), (4, [0], 0), (4, [1], 0), (40, [2, 5], 0), (44, [2, 5], 0), (4, [1], 0), (42, [2, 6, 25, 1, 0], 0), (0, [], 0), (4, [0], 0), (42, [2, 6, 25, 1, 0], 0), (0, [], 0), (0, [], 40), (86, [], 0), (4, [1], 0), (42, [2, 7, 26, 1, 0], 0), (0, [], 0), (4, [0], 0), (42, [2, 7, 26, 1, 0], 0), (0, [], 0), (0, [], 4), (86, [], 0), (4, [1], 0), (42, [2, 8, 27, 1, 0], 0), (0, [], 0), (4, [0], 0), (42, [2, 8, 27, 1, 0], 0), (0, [], 0), (0, [], 4), (86, [], 0), (4, [1], 0), (42, [2, 9, 28, 1, 0], 0), (0, [], 0), (4, [0], 0), (42, [2, 9, 28, 1, 0], 0), (0, [], 0), (0, [], 6), (86, [], 0), (4, [0], 0), (4, [1], 0), (40, [2, 10], 0), (47, [2, 10], 0), (4, [0], 0), (4, [1], 0), (40, [2, 11], 0), (44, [2, 11], 0), (4, [0], 0), (4, [1], 0), (40, [2, 12], 0), (44, [2, 12], 0), (72, [], 0)]]
def cd_W_cell : List (List qm_Ins) := [
  [(2, [1], 0), (4, [0], 0), (57, [], 0), (60, [3, 1], 0), (4, [0], 0), (2, [1], 0), (50, [], 0), (63, [2], 0)],
  [(0, [], 0), (64, [2], 0)],
  [(70, [], 0)]]
def cd_W_law : List (List qm_Ins) := [
  [(2, [3], 0), (4, [0], 0), (57, [], 0), (0, [], 6), (11, [], 0), (60, [4, 39], 0), (4, [0], 0), (2, [3], 0), (50, [], 0), (0, [], 31), (16, [], 0), (65, [38, 1, 2, 7, 8, 9, 10, 11, 16, 17, 18, 19, 20, 21, 22, 23, 24, 25, 26, 27, 28, 29, 30, 31, 32, 33, 34, 35, 36, 37], 0)],
  [(4, [1], 0), (4, [0], 0), (2, [3], 0), (0, [], 1), (10, [], 0), (50, [], 0), (4, [0], 0), (2, [3], 0), (0, [], 2), (10, [], 0), (50, [], 0), (4, [0], 0), (2, [3], 0), (0, [], 3), (10, [], 0), (50, [], 0), (4, [0], 0), (2, [3], 0), (0, [], 4), (10, [], 0), (50, [], 0), (80, [1, 5], 0), (4, [2], 0), (4, [0], 0), (2, [3], 0), (0, [], 1), (10, [], 0), (50, [], 0), (4, [0], 0), (2, [3], 0), (0, [], 2), (10, [], 0), (50, [], 0), (4, [0], 0), (2, [3], 0), (0, [], 3), (10, [], 0), (50, [], 0), (4, [0], 0), (2, [3], 0), (0, [], 4), (10, [], 0), (50, [], 0), (80, [64, 5], 0), (60, [0, 38], 0), (0, [], 0), (70, [], 0)],
  [(4, [1], 0), (4, [0], 0), (2, [3], 0), (0, [], 1), (10, [], 0), (50, [], 0), (4, [0], 0), (2, [3], 0), (0, [], 2), (10, [], 0), (50, [], 0), (4, [0], 0), (2, [3], 0), (0, [], 3), (10, [], 0), (50, [], 0), (61, [0, 3], 0), (0, [], 1), (63, [4], 0)],
  [(0, [], 0), (64, [4], 0)],
  [(80, [2, 4], 0), (4, [2], 0), (4, [0], 0), (2, [3], 0), (0, [], 1), (10, [], 0), (50, [], 0), (4, [0], 0), (2, [3], 0), (0, [], 2), (10, [], 0), (50, [], 0), (4, [0], 0), (2, [3], 0), (0, [], 3), (10, [], 0), (50, [], 0), (61, [0, 5], 0), (0, [], 1), (63, [6], 0)],
  [(0, [], 0), (64, [6], 0)],
  [(80, [66, 4], 0), (60, [0, 38], 0), (0, [], 0), (70, [], 0)],
  [(4, [1], 0), (4, [0], 0), (2, [3], 0), (0, [], 1), (10, [], 0), (50, [], 0), (4, [0], 0), (2, [3], 0), (0, [], 2), (10, [], 0), (50, [], 0), (4, [0], 0), (2, [3], 0), (0, [], 3), (10, [], 0), (50, [], 0), (4, [0], 0), (2, [3], 0), (0, [], 4), (10, [], 0), (50, [], 0), (80, [3, 5], 0), (4, [2], 0), (4, [0], 0), (2, [3], 0), (0, [], 1), (10, [], 0), (50, [], 0), (4, [0], 0), (2, [3], 0), (0, [], 2), (10, [], 0), (50, [], 0), (4, [0], 0), (2, [3], 0), (0, [], 3), (10, [], 0), (50, [], 0), (4, [0], 0), (2, [3], 0), (0, [], 4), (10, [], 0), (50, [], 0), (80, [68, 5], 0), (60, [0, 38], 0), (0, [], 0), (70, [], 0)],
  [(4, [1], 0), (4, [0], 0), (2, [3], 0), (0, [], 1), (10, [], 0), (50, [], 0), (4, [0], 0), (2, [3], 0), (0, [], 2), (10, [], 0), (50, [], 0), (4, [0], 0), (2, [3], 0), (0, [], 3), (10, [], 0), (50, [], 0), (80, [4, 4], 0), (4, [2], 0), (4, [0], 0), (2, [3], 0), (0, [], 1), (10, [], 0), (50, [], 0), (4, [0], 0), (2, [3], 0), (0, [], 2), (10, [], 0), (50, [], 0), (4, [0], 0), (2, [3], 0), (0, [], 3), (10, [], 0), (50, [], 0), (80, [69, 4], 0), (60, [0, 38], 0), (0, [], 0), (70, [], 0)],
  [(4, [1], 0), (4, [0], 0), (2, [3], 0), (0, [], 1), (10, [], 0), (50, [], 0), (4, [0], 0), (2, [3], 0), (0, [], 2), (10, [], 0), (50, [], 0), (4, [0], 0), (2, [3], 0), (0, [], 3), (10, [], 0), (50, [], 0), (4, [0], 0), (2, [3], 0), (0, [], 4), (10, [], 0), (50, [], 0), (80, [5, 5], 0), (4, [2], 0), (4, [0], 0), (2, [3], 0), (0, [], 1), (10, [], 0), (50, [], 0), (4, [0], 0), (2, [3], 0), (0, [], 2), (10, [], 0), (50, [], 0), (4, [0], 0), (2, [3], 0), (0, [], 3), (10, [], 0), (50, [], 0), (4, [0], 0), (2, [3], 0), (0, [], 4), (10, [], 0), (50, [], 0), (80, [70, 5], 0), (60, [0, 38], 0), (0, [], 0), (70, [], 0)],
  [(4, [1], 0), (4, [0], 0), (2, [3], 0), (0, [], 1), (10, [], 0), (50, [], 0), (4, [0], 0), (2, [3], 0), (0, [], 2), (10, [], 0), (50, [], 0), (80, [6, 3], 0), (4, [2], 0), (4, [0], 0), (2, [3], 0), (0, [], 1), (10, [], 0), (50, [], 0), (4, [0], 0), (2, [3], 0), (0, [], 2), (10, [], 0), (50, [], 0), (80, [72, 3], 0), (60, [0, 38], 0), (0, [], 0), (70, [], 0)],
  [(4, [1], 0), (4, [0], 0), (2, [3], 0), (0, [], 1), (10, [], 0), (50, [], 0), (4, [0], 0), (2, [3], 0), (0, [], 2), (10, [], 0), (50, [], 0), (61, [0, 12], 0), (0, [], 1), (63, [13], 0)],
  [(0, [], 0), (64, [13], 0)],
  [(4, [0], 0), (2, [3], 0), (0, [], 3), (10, [], 0), (50, [], 0), (80, [7, 4], 0), (4, [2], 0), (4, [0], 0), (2, [3], 0), (0, [], 1), (10, [], 0), (50, [], 0), (4, [0], 0), (2, [3], 0), (0, [], 2), (10, [], 0), (50, [], 0), (61, [0, 14], 0), (0, [], 1), (63, [15], 0)],
  [(0, [], 0), (64, [15], 0)],
  [(4, [0], 0), (2, [3], 0), (0, [], 3), (10, [], 0), (50, [], 0), (80, [73, 4], 0), (60, [0, 38], 0), (0, [], 0), (70, [], 0)],
  [(4, [1], 0), (4, [0], 0), (2, [3], 0), (0, [], 1), (10, [], 0), (50, [], 0), (4, [0], 0), (2, [3], 0), (0, [], 2), (10, [], 0), (50, [], 0), (4, [0], 0), (2, [3], 0), (0, [], 3), (10, [], 0), (50, [], 0), (4, [0], 0), (2, [3], 0), (0, [], 4), (10, [], 0), (50, [], 0), (4, [0], 0), (2, [3], 0), (0, [], 5), (10, [], 0), (50, [], 0), (80, [8, 6], 0), (4, [2], 0), (4, [0], 0), (2, [3], 0), (0, [], 1), (10, [], 0), (50, [], 0), (4, [0], 0), (2, [3], 0), (0, [], 2), (10, [], 0), (50, [], 0), (4, [0], 0), (2, [3], 0), (0, [], 3), (10, [], 0), (50, [], 0), (4, [0], 0), (2, [3], 0), (0, [], 4), (10, [], 0), (50, [], 0), (4, [0], 0), (2, [3], 0), (0, [], 5), (10, [], 0), (50, [], 0), (80, [75, 6], 0), (60, [0, 38], 0), (0, [], 0), (70, [], 0)],
  [(4, [1], 0), (4, [0], 0), (2, [3], 0), (0, [], 1), (10, [], 0), (50, [], 0), (80, [10, 2], 0), (4, [2], 0), (4, [0], 0), (2, [3], 0), (0, [], 1), (10, [], 0), (50, [], 0), (80, [76, 2], 0), (60, [0, 38], 0), (0, [], 0), (70, [], 0)],
  [(4, [1], 0), (80, [11, 1], 0), (4, [2], 0), (80, [110, 1], 0), (60, [0, 38], 0), (0, [], 0), (70, [], 0)],
  [(4, [1], 0), (4, [0], 0), (2, [3], 0), (0, [], 1), (10, [], 0), (50, [], 0), (80, [12, 2], 0), (4, [2], 0), (4, [0], 0), (2, [3], 0), (0, [], 1), (10, [], 0), (50, [], 0), (80, [111, 2], 0), (60, [0, 38], 0), (0, [], 0), (70, [], 0)],
  [(4, [1], 0), (4, [0], 0), (2, [3], 0), (0, [], 1), (10, [], 0), (50, [], 0), (80, [13, 2], 0), (4, [2], 0), (4, [0], 0), (2, [3], 0), (0, [], 1), (10, [], 0), (50, [], 0), (80, [112, 2], 0), (60, [0, 38], 0), (0, [], 0), (70, [], 0)],
  [(4, [1], 0), (4, [0], 0), (2, [3], 0), (0, [], 1), (10, [], 0), (50, [], 0), (80, [15, 2], 0), (4, [2], 0), (4, [0], 0), (2, [3], 0), (0, [], 1), (10, [], 0), (50, [], 0), (80, [113, 2], 0), (60, [0, 38], 0), (0, [], 0), (70, [], 0)],
  [(4, [1], 0), (4, [0], 0), (2, [3], 0), (0, [], 1), (10, [], 0), (50, [], 0), (4, [0], 0), (2, [3], 0), (0, [], 2), (10, [], 0), (50, [], 0), (4, [0], 0), (2, [3], 0), (0, [], 3), (10, [], 0), (50, [], 0), (80, [17, 4], 0), (4, [2], 0), (4, [0], 0), (2, [3], 0), (0, [], 1), (10, [], 0), (50, [], 0), (4, [0], 0), (2, [3], 0), (0, [], 2), (10, [], 0), (50, [], 0), (4, [0], 0), (2, [3], 0), (0, [], 3), (10, [], 0), (50, [], 0), (80, [131, 4], 0), (60, [0, 38], 0), (0, [], 0), (70, [], 0)],
  [(4, [1], 0), (4, [0], 0), (2, [3], 0), (0, [], 1), (10, [], 0), (50, [], 0), (80, [18, 2], 0), (4, [2], 0), (4, [0], 0), (2, [3], 0), (0, [], 1), (10, [], 0), (50, [], 0), (80, [134, 2], 0), (60, [0, 38], 0), (0, [], 0), (70, [], 0)],
  [(4, [1], 0), (4, [0], 0), (2, [3], 0), (0, [], 1), (10, [], 0), (50, [], 0), (80, [19, 2], 0), (4, [2], 0), (4, [0], 0), (2, [3], 0), (0, [], 1), (10, [], 0), (50, [], 0), (80, [137, 2], 0), (60, [0, 38], 0), (0, [], 0), (70, [], 0)],
  [(4, [1], 0), (4, [0], 0), (2, [3], 0), (0, [], 1), (10, [], 0), (50, [], 0), (80, [20, 2], 0), (4, [2], 0), (4, [0], 0), (2, [3], 0), (0, [], 1), (10, [], 0), (50, [], 0), (80, [140, 2], 0), (60, [0, 38], 0), (0, [], 0), (70, [], 0)],
  [(4, [1], 0), (4, [0], 0), (2, [3], 0), (0, [], 1), (10, [], 0), (50, [], 0), (4, [0], 0), (2, [3], 0), (0, [], 2), (10, [], 0), (50, [], 0), (80, [22, 3], 0), (4, [2], 0), (4, [0], 0), (2, [3], 0), (0, [], 1), (10, [], 0), (50, [], 0), (4, [0], 0), (2, [3], 0), (0, [], 2), (10, [], 0), (50, [], 0), (80, [146, 3], 0), (60, [0, 38], 0), (0, [], 0), (70, [], 0)],
  [(4, [1], 0), (4, [0], 0), (2, [3], 0), (0, [], 1), (10, [], 0), (50, [], 0), (4, [0], 0), (2, [3], 0), (0, [], 2), (10, [], 0), (50, [], 0), (4, [0], 0), (2, [3], 0), (0, [], 3), (10, [], 0), (50, [], 0), (80, [23, 4], 0), (4, [2], 0), (4, [0], 0), (2, [3], 0), (0, [], 1), (10, [], 0), (50, [], 0), (4, [0], 0), (2, [3], 0), (0, [], 2), (10, [], 0), (50, [], 0), (4, [0], 0), (2, [3], 0), (0, [], 3), (10, [], 0), (50, [], 0), (80, [150, 4], 0), (60, [0, 38], 0), (0, [], 0), (70, [], 0)],
  [(4, [1], 0), (4, [0], 0), (2, [3], 0), (0, [], 1), (10, [], 0), (50, [], 0), (4, [0], 0), (2, [3], 0), (0, [], 2), (10, [], 0), (50, [], 0), (4, [0], 0), (2, [3], 0), (0, [], 3), (10, [], 0), (50, [], 0), (4, [0], 0), (2, [3], 0), (0, [], 4), (10, [], 0), (50, [], 0), (80, [27, 5], 0), (4, [2], 0), (4, [0], 0), (2, [3], 0), (0, [], 1), (10, [], 0), (50, [], 0), (4, [0], 0), (2, [3], 0), (0, [], 2), (10, [], 0), (50, [], 0), (4, [0], 0), (2, [3], 0), (0, [], 3), (10, [], 0), (50, [], 0), (4, [0], 0), (2, [3], 0), (0, [], 4), (10, [], 0), (50, [], 0), (80, [154, 5], 0), (60, [0, 38], 0), (0, [], 0), (70, [], 0)],
  [(4, [1], 0), (4, [0], 0), (2, [3], 0), (0, [], 1), (10, [], 0), (50, [], 0), (4, [0], 0), (2, [3], 0), (0, [], 2), (10, [], 0), (50, [], 0), (80, [28, 3], 0), (4, [2], 0), (4, [0], 0), (2, [3], 0), (0, [], 1), (10, [], 0), (50, [], 0), (4, [0], 0), (2, [3], 0), (0, [], 2), (10, [], 0), (50, [], 0), (80, [155, 3], 0), (60, [0, 38], 0), (0, [], 0), (70, [], 0)],
  [(4, [1], 0), (4, [0], 0), (2, [3], 0), (0, [], 1), (10, [], 0), (50, [], 0), (4, [0], 0), (2, [3], 0), (0, [], 2), (10, [], 0), (50, [], 0), (4, [0], 0), (2, [3], 0), (0, [], 3), (10, [], 0), (50, [], 0), (80, [33, 4], 0), (4, [2], 0), (4, [0], 0), (2, [3], 0), (0, [], 1), (10, [], 0), (50, [], 0), (4, [0], 0), (2, [3], 0), (0, [], 2), (10, [], 0), (50, [], 0), (4, [0], 0), (2, [3], 0), (0, [], 3), (10, [], 0), (50, [], 0), (80, [156, 4], 0), (60, [0, 38], 0), (0, [], 0), (70, [], 0)],
  [(4, [1], 0), (4, [0], 0), (2, [3], 0), (0, [], 1), (10, [], 0), (50, [], 0), (80, [34, 2], 0), (4, [2], 0), (4, [0], 0), (2, [3], 0), (0, [], 1), (10, [], 0), (50, [], 0), (80, [157, 2], 0), (60, [0, 38], 0), (0, [], 0), (70, [], 0)],
  [(4, [1], 0), (80, [37, 1], 0), (4, [2], 0), (80, [158, 1], 0), (60, [0, 38], 0), (0, [], 0), (70, [], 0)],
  [(4, [1], 0), (4, [0], 0), (2, [3], 0), (0, [], 1), (10, [], 0), (50, [], 0), (4, [0], 0), (2, [3], 0), (0, [], 2), (10, [], 0), (50, [], 0), (80, [38, 3], 0), (4, [2], 0), (4, [0], 0), (2, [3], 0), (0, [], 1), (10, [], 0), (50, [], 0), (4, [0], 0), (2, [3], 0), (0, [], 2), (10, [], 0), (50, [], 0), (80, [160, 3], 0), (60, [0, 38], 0), (0, [], 0), (70, [], 0)],
  [(4, [1], 0), (4, [0], 0), (2, [3], 0), (0, [], 1), (10, [], 0), (50, [], 0), (4, [0], 0), (2, [3], 0), (0, [], 2), (10, [], 0), (50, [], 0), (4, [0], 0), (2, [3], 0), (0, [], 3), (10, [], 0), (50, [], 0), (80, [40, 4], 0), (4, [2], 0), (4, [0], 0), (2, [3], 0), (0, [], 1), (10, [], 0), (50, [], 0), (4, [0], 0), (2, [3], 0), (0, [], 2), (10, [], 0), (50, [], 0), (4, [0], 0), (2, [3], 0), (0, [], 3), (10, [], 0), (50, [], 0), (80, [161, 4], 0), (60, [0, 38], 0), (0, [], 0), (70, [], 0)],
  [(4, [1], 0), (80, [42, 1], 0), (4, [2], 0), (80, [162, 1], 0), (60, [0, 38], 0), (0, [], 0), (70, [], 0)],
  [(4, [1], 0), (80, [43, 1], 0), (4, [2], 0), (80, [163, 1], 0), (60, [0, 38], 0), (0, [], 0), (70, [], 0)],
  [(4, [1], 0), (4, [0], 0), (2, [3], 0), (0, [], 1), (10, [], 0), (50, [], 0), (80, [44, 2], 0), (4, [2], 0), (4, [0], 0), (2, [3], 0), (0, [], 1), (10, [], 0), (50, [], 0), (80, [164, 2], 0), (60, [0, 38], 0), (0, [], 0), (70, [], 0)],
  [(8, [3], 6), (63, [0], 0)],
  [(0, [], 1), (70, [], 0)]]
def qm_code : List (Nat × List (List qm_Ins)) := [
  (4, []),
  (5, cd_C_lay),
  (4, cd_C_bark),
  (6, cd_C_measure),
  (4, cd_C_span),
  (7, cd_C_weather),
  (3, cd_C_plan),
  (4, cd_C_ends),
  (6, cd_C_feed),
  (3, cd_C_feedFour),
  (2, cd_C_end),
  (2, cd_C_text),
  (2, cd_C_fault),
  (2, cd_C_by),
  (1, cd_C_obey),
  (4, cd_C_laid),
  (6, cd_C_layClause),
  (6, cd_C_of),
  (3, cd_C_stack),
  (2, cd_C_week),
  (4, cd_C_take),
  (9, cd_C_takeOne),
  (4, cd_C_order),
  (8, cd_C_way),
  (6, cd_C_tryWay),
  (3, cd_C_bestOf),
  (4, cd_C_bestInBoth),
  (5, cd_C_spans),
  (7, cd_C_sure),
  (7, cd_C_trySpans),
  (2, cd_C_lesser),
  (2, cd_C_greater),
  (7, cd_C_nextToMeasure),
  (6, cd_C_small),
  (5, cd_C_winter),
  (4, cd_C_listHeats),
  (4, cd_C_pullGreatest),
  (1, cd_C_remember),
  (5, cd_C_missing),
  (2, cd_C_missingOf),
  (7, cd_C_falls),
  (5, cd_C_fallsBy),
  (1, cd_C_image),
  (1, cd_C_back),
  (2, cd_C_about),
  (2, cd_C_canTry),
  (2, cd_C_canPass),
  (2, cd_C_isWeather),
  (2, cd_C_isText),
  (1, cd_C_isKind),
  (1, cd_C_isWater),
  (2, cd_C_isSpan),
  (1, cd_C_isDry),
  (3, cd_C_within),
  (2, cd_C_placeOf),
  (3, []),
  (4, cd_M_copy),
  (3, cd_M_isIn),
  (4, cd_M_held),
  (2, cd_M_count),
  (3, cd_M_at0),
  (2, cd_M_isColumn),
  (3, cd_M_isSplit),
  (3, cd_M_splits),
  (5, cd_M_lay),
  (6, cd_M_put),
  (4, cd_M_bark),
  (2, cd_M_isSpan),
  (5, cd_M_measure),
  (4, cd_M_span),
  (6, cd_M_weather),
  (2, cd_M_isWeather),
  (3, cd_M_plan),
  (4, cd_M_ends),
  (3, cd_M_four),
  (6, cd_M_feed),
  (2, cd_M_end),
  (2, cd_M_byteAt),
  (1, cd_M_isLetter),
  (1, cd_M_isDigit),
  (3, cd_M_nextToken),
  (3, cd_M_w3),
  (5, cd_M_w5),
  (4, cd_M_w4),
  (6, cd_M_w6),
  (3, cd_M_isWord),
  (3, cd_M_emit),
  (2, cd_M_push),
  (1, cd_M_rank),
  (2, cd_M_settle),
  (1, cd_M_whole),
  (2, cd_M_marker),
  (2, cd_M_isCompared),
  (2, cd_M_isAskAhead),
  (2, cd_M_opensBy),
  (3, cd_M_beginOne),
  (1, cd_M_compareOf),
  (2, cd_M_betweenOf),
  (5, cd_M_behindOne),
  (4, cd_M_parsed),
  (7, cd_M_w7),
  (1, cd_M_nameOf),
  (1, cd_M_farName),
  (2, cd_M_isOf),
  (1, cd_M_sortOf),
  (4, cd_M_figure),
  (2, cd_M_expects),
  (3, cd_M_laidBy),
  (6, cd_M_clause),
  (2, cd_M_readText),
  (1, cd_M_text),
  (2, cd_M_fault),
  (2, cd_M_by),
  (4, cd_M_laid),
  (2, cd_M_clip),
  (5, cd_M_two),
  (5, cd_M_isAsked),
  (9, cd_M_work),
  (1, cd_M_clauses),
  (3, cd_M_clauseOf),
  (6, cd_M_sumOf),
  (4, cd_M_besideOf),
  (5, cd_M_name),
  (5, cd_M_thickOf),
  (3, cd_M_heatOf),
  (3, cd_M_isDry),
  (4, cd_M_heightOf),
  (1, cd_M_leanOf),
  (3, cd_M_standOf),
  (4, cd_M_dryMany),
  (4, cd_M_isBeetle),
  (4, cd_M_of),
  (9, cd_M_airIn),
  (4, cd_M_beetles),
  (2, cd_M_stack),
  (7, cd_M_driedOf),
  (5, cd_M_goBy),
  (2, cd_M_week),
  (5, cd_M_takeOff),
  (10, cd_M_takeOne),
  (4, cd_M_take),
  (2, cd_M_tries),
  (3, cd_M_isTried),
  (4, cd_M_keepOrder),
  (3, cd_M_choosesNext),
  (4, cd_M_findOrder),
  (3, cd_M_order),
  (4, cd_M_goOn),
  (5, cd_M_tryWays),
  (3, cd_M_bestOf),
  (7, cd_M_way),
  (7, cd_M_tryEnds),
  (2, cd_M_lesser),
  (2, cd_M_greater),
  (5, cd_M_spans),
  (10, cd_M_sure),
  (7, cd_M_small),
  (8, cd_M_winter),
  (2, cd_M_remember),
  (2, cd_M_missingOf),
  (5, cd_M_missing),
  (8, cd_M_falls),
  (1, cd_M_image),
  (1, cd_M_back),
  (2, cd_M_about),
  (2, []),
  (8, cd_L_thickOf),
  (6, cd_L_heatOf),
  (5, cd_L_worthOf),
  (3, cd_L_standOf),
  (5, cd_L_heightOf),
  (2, cd_L_leanOf),
  (11, cd_L_airIn),
  (5, cd_L_beetlesIn),
  (5, cd_L_hasBeetle),
  (5, cd_L_pass),
  (7, cd_L_dryAll),
  (9, cd_L_driedBy),
  (5, cd_L_look),
  (8, cd_L_valueOf),
  (2, cd_L_nameValue),
  (5, cd_L_joined),
  (3, cd_L_clamp),
  (2, []),
  (2, cd_P_become),
  (1, cd_P_isFallen),
  (3, cd_P_holds),
  (2, cd_P_clear),
  (7, cd_P_add),
  (4, cd_P_remove),
  (2, cd_P_bringDown),
  (3, cd_P_turnBark),
  (3, cd_P_splits),
  (4, cd_P_drySplits),
  (3, cd_P_tallest),
  (3, cd_P_isTop),
  (4, cd_P_besideOf),
  (2, cd_P_isSunny),
  (1, []),
  (5, cd_R_readAll),
  (1, cd_R_token),
  (1, cd_R_number),
  (1, cd_R_step),
  (2, cd_R_fail),
  (2, cd_R_expect),
  (2, cd_R_emit),
  (2, cd_R_readClause),
  (1, cd_R_readLay),
  (3, cd_R_readTold),
  (5, cd_R_readPart),
  (1, cd_R_levelOf),
  (3, cd_R_readAsk),
  (2, cd_R_opens),
  (3, cd_R_readOne),
  (2, cd_R_readName),
  (2, cd_R_isNameOfClause),
  (3, cd_R_readPair),
  (3, []),
  (2, cd_S_begin),
  (10, cd_S_tryFrom),
  (3, cd_S_note),
  (1, []),
  (2, cd_T_clear),
  (2, cd_T_begin),
  (2, cd_T_emit),
  (2, cd_T_clauseOf),
  (4, cd_T_codeAt),
  (1, cd_T_standsOnce),
  (1, []),
  (6, cd_K_cut),
  (4, cd_K_add),
  (5, cd_K_cutWord),
  (8, cd_K_wordOf),
  (6, cd_K_cutNumber),
  (5, cd_K_cutSign),
  (1, cd_K_signOf),
  (1, cd_K_isLetter),
  (1, cd_K_isDigit),
  (2, []),
  (2, cd_Y_become),
  (2, cd_W_cell),
  (4, cd_W_law)]
def qm_blk (m k : Nat) : List qm_Ins := (qm_code.getD m (0, [])).2.getD k []
def qm_maxL (m : Nat) : Nat := (qm_code.getD m (0, [])).1
end
section
/-- a run: fuel n, depth d, method m, the rest of its block, locals, operands, heap -/
def qm_run : Nat → Nat → Nat → List qm_Ins → List qm_AV → List qm_AV → qm_Hp → Option (Option qm_AV × qm_Hp)
  | 0, _, _, _, _, _, _ => none
  | _ + 1, _, _, [], _, _, _ => none
  | n + 1, d, m, i :: c, ls, st, s => match qm_act i ls st s with
    | none => none
    | some (.inl (ls', st', s')) => qm_run n d m c ls' st' s'
    | some (.inr (.inl (b, st'))) => qm_run n d m (qm_blk m b) ls st' s
    | some (.inr (.inr (.inl (f, as, st')))) => match d with
      | 0 => none
      | d' + 1 => match qm_run n d' f (qm_blk f 0) (qm_ent (qm_maxL f) as) [] s with
        | none => none
        | some (r, s') => qm_run n (d' + 1) m c ls (qm_push r st') s'
    | some (.inr (.inr (.inr r))) => some (r, s)
theorem qm_run_mono : ∀ (n d m : Nat) (c : List qm_Ins) (ls st : List qm_AV) (s : qm_Hp) (r : Option qm_AV × qm_Hp), qm_run n d m c ls st s = some r → qm_run (n + 1) d m c ls st s = some r := by
  intro n
  induction n with
  | zero => intro d m c ls st s r h; simp [qm_run] at h
  | succ n ih =>
    intro d m c ls st s r h
    cases c with
    | nil => simp [qm_run] at h
    | cons i c =>
      rw [qm_run] at h ⊢
      generalize qm_act i ls st s = x at h ⊢
      match x, h with
      | none, h => exact h
      | some (.inl (ls', st', s')), h => exact ih _ _ _ _ _ _ _ h
      | some (.inr (.inl (b, st'))), h => exact ih _ _ _ _ _ _ _ h
      | some (.inr (.inr (.inl (f, as, st')))), h =>
        match d, h with
        | 0, h => exact h
        | d' + 1, h =>
          dsimp only at h ⊢
          cases e : qm_run n d' f (qm_blk f 0) (qm_ent (qm_maxL f) as) [] s with
          | none => rw [e] at h; cases h
          | some q =>
            rw [e] at h
            rw [ih _ _ _ _ _ _ _ e]
            obtain ⟨q1, q2⟩ := q
            exact ih _ _ _ _ _ _ _ h
      | some (.inr (.inr (.inr r'))), h => exact h
theorem qm_run_le {n k d m : Nat} {c : List qm_Ins} {ls st : List qm_AV} {s : qm_Hp} {r : Option qm_AV × qm_Hp} (hk : n ≤ k) (h : qm_run n d m c ls st s = some r) : qm_run k d m c ls st s = some r := by
  induction hk with
  | refl => exact h
  | step _ ih => exact qm_run_mono _ _ _ _ _ _ _ _ ih
/-- where a run comes to, if it does -/
noncomputable def qm_ev (d m : Nat) (c : List qm_Ins) (ls st : List qm_AV) (s : qm_Hp) : Option (Option qm_AV × qm_Hp) :=
  @dite _ (∃ r n, qm_run n d m c ls st s = some r) (Classical.propDecidable _) (fun h => some (Classical.choose h)) (fun _ => none)
theorem qm_ev_iff {d m : Nat} {c : List qm_Ins} {ls st : List qm_AV} {s : qm_Hp} {r : Option qm_AV × qm_Hp} : qm_ev d m c ls st s = some r ↔ ∃ n, qm_run n d m c ls st s = some r := by
  unfold qm_ev
  by_cases h : ∃ r n, qm_run n d m c ls st s = some r
  · rw [dif_pos h]
    obtain ⟨n, hn⟩ := Classical.choose_spec h
    constructor
    · intro e
      cases e
      exact ⟨n, hn⟩
    · rintro ⟨k, hk⟩
      have h1 := qm_run_le (Nat.le_max_left n k) hn
      have h2 := qm_run_le (Nat.le_max_right n k) hk
      rw [h1] at h2
      exact h2
  · rw [dif_neg h]
    exact ⟨fun e => (by cases e), fun ⟨n, hn⟩ => absurd ⟨r, n, hn⟩ h⟩
noncomputable def qm_evB (d m k : Nat) (ls st : List qm_AV) (s : qm_Hp) : Option (Option qm_AV × qm_Hp) := qm_ev d m (qm_blk m k) ls st s
noncomputable def qm_evM (d f : Nat) (as : List qm_AV) (s : qm_Hp) : Option (Option qm_AV × qm_Hp) := qm_evB d f 0 (qm_ent (qm_maxL f) as) [] s
theorem qm_ev_same {d m d' m' : Nat} {c c' : List qm_Ins} {ls st ls' st' : List qm_AV} {s s' : qm_Hp} (h : ∀ n, qm_run (n + 1) d m c ls st s = qm_run n d' m' c' ls' st' s') : qm_ev d m c ls st s = qm_ev d' m' c' ls' st' s' := by
  refine Option.ext fun r => ?_
  rw [qm_ev_iff, qm_ev_iff]
  constructor
  · rintro ⟨n, hn⟩
    exact ⟨n, by rw [← h]; exact qm_run_mono _ _ _ _ _ _ _ _ hn⟩
  · rintro ⟨n, hn⟩
    exact ⟨n + 1, by rw [h]; exact hn⟩
theorem qm_go {d m : Nat} {i : qm_Ins} {c : List qm_Ins} {ls st ls' st' : List qm_AV} {s s' : qm_Hp} (h : qm_act i ls st s = some (.inl (ls', st', s'))) : qm_ev d m (i :: c) ls st s = qm_ev d m c ls' st' s' :=
  qm_ev_same fun n => by rw [qm_run, h]
theorem qm_jump {d m b : Nat} {i : qm_Ins} {c : List qm_Ins} {ls st st' : List qm_AV} {s : qm_Hp} (h : qm_act i ls st s = some (.inr (.inl (b, st')))) : qm_ev d m (i :: c) ls st s = qm_evB d m b ls st' s :=
  qm_ev_same fun n => by rw [qm_run, h]
theorem qm_ret {d m : Nat} {i : qm_Ins} {c : List qm_Ins} {ls st : List qm_AV} {s : qm_Hp} {r : Option qm_AV} (h : qm_act i ls st s = some (.inr (.inr (.inr r)))) : qm_ev d m (i :: c) ls st s = some (r, s) :=
  qm_ev_iff.mpr ⟨1, by rw [qm_run, h]⟩
theorem qm_call {d m f : Nat} {i : qm_Ins} {c : List qm_Ins} {ls st as st' : List qm_AV} {s : qm_Hp} (h : qm_act i ls st s = some (.inr (.inr (.inl (f, as, st'))))) : qm_ev (d + 1) m (i :: c) ls st s = (qm_evM d f as s).bind (fun r => qm_ev (d + 1) m c ls (qm_push r.1 st') r.2) := by
  refine Option.ext fun r => ?_
  rw [qm_ev_iff, Option.bind_eq_some_iff]
  constructor
  · rintro ⟨n, hn⟩
    cases n with
    | zero => simp [qm_run] at hn
    | succ n =>
      rw [qm_run, h] at hn
      dsimp only at hn
      cases e : qm_run n d f (qm_blk f 0) (qm_ent (qm_maxL f) as) [] s with
      | none => rw [e] at hn; cases hn
      | some q =>
        rw [e] at hn
        exact ⟨q, qm_ev_iff.mpr ⟨n, e⟩, qm_ev_iff.mpr ⟨n, hn⟩⟩
  · rintro ⟨q, h1, h2⟩
    obtain ⟨n, hn⟩ := qm_ev_iff.mp h1
    obtain ⟨k, hk⟩ := qm_ev_iff.mp h2
    refine ⟨max n k + 1, ?_⟩
    rw [qm_run, h]
    dsimp only
    rw [qm_run_le (Nat.le_max_left n k) hn]
    exact qm_run_le (Nat.le_max_right n k) hk
end
section
theorem x_icst (d m : Nat) (c : List qm_Ins) (ls st : List qm_AV) (s : qm_Hp) (v : Int) : qm_ev d m ((0, [], v) :: c) ls (st) s = qm_ev d m c (ls) (qI (Int32.ofInt v) :: st) s := qm_go rfl
theorem x_lcst (d m : Nat) (c : List qm_Ins) (ls st : List qm_AV) (s : qm_Hp) (v : Int) : qm_ev d m ((1, [], v) :: c) ls (st) s = qm_ev d m c (ls) (qL (Int64.ofInt v) :: st) s := qm_go rfl
def qm_ldI (v : qm_AV) (f : Int32 → Option (Option qm_AV × qm_Hp)) : Option (Option qm_AV × qm_Hp) := match v with | .inl x => f x | _ => none
def qm_ldL (v : qm_AV) (f : Int64 → Option (Option qm_AV × qm_Hp)) : Option (Option qm_AV × qm_Hp) := match v with | .inr (.inl x) => f x | _ => none
def qm_ldP (v : qm_AV) (f : Nat → Nat → Option (Option qm_AV × qm_Hp)) : Option (Option qm_AV × qm_Hp) := match v with | .inr (.inr (q, i)) => if q = 99 then none else f q i | _ => none
theorem qm_ldI_e (x : Int32) (f : Int32 → Option (Option qm_AV × qm_Hp)) : qm_ldI (qI x) f = f x := rfl
theorem qm_ldL_e (x : Int64) (f : Int64 → Option (Option qm_AV × qm_Hp)) : qm_ldL (qL x) f = f x := rfl
theorem qm_ldP_e (q i : Nat) (f : Nat → Nat → Option (Option qm_AV × qm_Hp)) : qm_ldP (qP q i) f = if q = 99 then none else f q i := rfl
theorem qm_ev_no {d m : Nat} {i : qm_Ins} {c : List qm_Ins} {ls st : List qm_AV} {s : qm_Hp} (h : qm_act i ls st s = none) : qm_ev d m (i :: c) ls st s = none := by
  refine Option.ext fun r => ?_
  rw [qm_ev_iff]
  constructor
  · rintro ⟨n, hn⟩
    cases n with
    | zero => simp [qm_run] at hn
    | succ n => rw [qm_run, h] at hn; cases hn
  · intro e; cases e
theorem x_iload (d m : Nat) (c : List qm_Ins) (ls st : List qm_AV) (s : qm_Hp) (k : Nat) : qm_ev d m ((2, [k], 0) :: c) ls st s = qm_ldI (qm_lg ls k) (fun x => qm_ev d m c ls (qI x :: st) s) := by
  generalize hv : qm_lg ls k = v
  rcases v with x | x | ⟨q, i⟩
  · first | exact qm_go (by simp only [qm_act, qa_load, hv]) | exact qm_ev_no (by simp only [qm_act, qa_load, hv])
  · first | exact qm_go (by simp only [qm_act, qa_load, hv]) | exact qm_ev_no (by simp only [qm_act, qa_load, hv])
  · exact qm_ev_no (by simp only [qm_act, qa_load, hv])
theorem x_lload (d m : Nat) (c : List qm_Ins) (ls st : List qm_AV) (s : qm_Hp) (k : Nat) : qm_ev d m ((3, [k], 0) :: c) ls st s = qm_ldL (qm_lg ls k) (fun x => qm_ev d m c ls (qL x :: st) s) := by
  generalize hv : qm_lg ls k = v
  rcases v with x | x | ⟨q, i⟩
  · first | exact qm_go (by simp only [qm_act, qa_load, hv]) | exact qm_ev_no (by simp only [qm_act, qa_load, hv])
  · first | exact qm_go (by simp only [qm_act, qa_load, hv]) | exact qm_ev_no (by simp only [qm_act, qa_load, hv])
  · exact qm_ev_no (by simp only [qm_act, qa_load, hv])
theorem x_aload (d m : Nat) (c : List qm_Ins) (ls st : List qm_AV) (s : qm_Hp) (k : Nat) : qm_ev d m ((4, [k], 0) :: c) ls st s = qm_ldP (qm_lg ls k) (fun q i => qm_ev d m c ls (qP q i :: st) s) := by
  generalize hv : qm_lg ls k = v
  rcases v with x | x | ⟨q, i⟩
  · exact qm_ev_no (by simp only [qm_act, qa_load, hv])
  · exact qm_ev_no (by simp only [qm_act, qa_load, hv])
  · rw [qm_ldP_e]
    by_cases hq : q = 99
    · rw [if_pos hq]; exact qm_ev_no (by simp only [qm_act, qa_load, hv, if_pos hq])
    · rw [if_neg hq]; exact qm_go (by simp only [qm_act, qa_load, hv, if_neg hq])
theorem x_istore (d m : Nat) (c : List qm_Ins) (ls st : List qm_AV) (s : qm_Hp) (k : Nat) (x : Int32) (h : k < ls.length) : qm_ev d m ((5, [k], 0) :: c) ls (qI x :: st) s = qm_ev d m c (qm_s1 ls k (qI x)) st s := qm_go (by simp only [qm_act, qa_store, if_pos h])
theorem x_lstore (d m : Nat) (c : List qm_Ins) (ls st : List qm_AV) (s : qm_Hp) (k : Nat) (x : Int64) (h : k + 1 < ls.length) : qm_ev d m ((6, [k], 0) :: c) ls (qL x :: st) s = qm_ev d m c (qm_s2 ls k (qL x)) st s := qm_go (by simp only [qm_act, qa_store, if_pos h])
theorem x_astore (d m : Nat) (c : List qm_Ins) (ls st : List qm_AV) (s : qm_Hp) (k q i : Nat) (hq : ¬ q = 0) (h : k < ls.length) : qm_ev d m ((7, [k], 0) :: c) ls (qP q i :: st) s = qm_ev d m c (qm_s1 ls k (qP q i)) st s := qm_go (by simp only [qm_act, qa_store, if_pos h, if_neg hq])
theorem x_iinc (d m : Nat) (c : List qm_Ins) (ls st : List qm_AV) (s : qm_Hp) (k : Nat) (v : Int) (hk : k < ls.length) : qm_ev d m ((8, [k], v) :: c) ls st s = qm_ldI (qm_lg ls k) (fun x => qm_ev d m c (qm_s1 ls k (qI (x + Int32.ofInt v))) st s) := by
  generalize hv : qm_lg ls k = w
  rcases w with x | x | ⟨q, i⟩
  · exact qm_go (by simp only [qm_act, qa_iinc, hv, if_pos hk])
  · exact qm_ev_no (by simp only [qm_act, qa_iinc, hv])
  · exact qm_ev_no (by simp only [qm_act, qa_iinc, hv])
theorem x_iadd (d m : Nat) (c : List qm_Ins) (ls st : List qm_AV) (s : qm_Hp) (x y : Int32) : qm_ev d m ((10, [], 0) :: c) ls (qI y :: qI x :: st) s = qm_ev d m c (ls) (qI (x + y) :: st) s := qm_go rfl
theorem x_isub (d m : Nat) (c : List qm_Ins) (ls st : List qm_AV) (s : qm_Hp) (x y : Int32) : qm_ev d m ((11, [], 0) :: c) ls (qI y :: qI x :: st) s = qm_ev d m c (ls) (qI (x - y) :: st) s := qm_go rfl
theorem x_imul (d m : Nat) (c : List qm_Ins) (ls st : List qm_AV) (s : qm_Hp) (x y : Int32) : qm_ev d m ((12, [], 0) :: c) ls (qI y :: qI x :: st) s = qm_ev d m c (ls) (qI (x * y) :: st) s := qm_go rfl
theorem x_iand (d m : Nat) (c : List qm_Ins) (ls st : List qm_AV) (s : qm_Hp) (x y : Int32) : qm_ev d m ((16, [], 0) :: c) ls (qI y :: qI x :: st) s = qm_ev d m c (ls) (qI (x &&& y) :: st) s := qm_go rfl
theorem x_ior (d m : Nat) (c : List qm_Ins) (ls st : List qm_AV) (s : qm_Hp) (x y : Int32) : qm_ev d m ((17, [], 0) :: c) ls (qI y :: qI x :: st) s = qm_ev d m c (ls) (qI (x ||| y) :: st) s := qm_go rfl
theorem x_ishl (d m : Nat) (c : List qm_Ins) (ls st : List qm_AV) (s : qm_Hp) (x y : Int32) : qm_ev d m ((18, [], 0) :: c) ls (qI y :: qI x :: st) s = qm_ev d m c (ls) (qI (x <<< (y &&& 31)) :: st) s := qm_go rfl
theorem x_ishr (d m : Nat) (c : List qm_Ins) (ls st : List qm_AV) (s : qm_Hp) (x y : Int32) : qm_ev d m ((19, [], 0) :: c) ls (qI y :: qI x :: st) s = qm_ev d m c (ls) (qI (x >>> (y &&& 31)) :: st) s := qm_go rfl
theorem x_iushr (d m : Nat) (c : List qm_Ins) (ls st : List qm_AV) (s : qm_Hp) (x y : Int32) : qm_ev d m ((20, [], 0) :: c) ls (qI y :: qI x :: st) s = qm_ev d m c (ls) (qI ((x.toUInt32 >>> (y.toUInt32 &&& Int32.toUInt32 31)).toInt32) :: st) s := qm_go rfl
theorem x_idiv (d m : Nat) (c : List qm_Ins) (ls st : List qm_AV) (s : qm_Hp) (x y : Int32) (h : ¬ y = 0) : qm_ev d m ((13, [], 0) :: c) ls (qI y :: qI x :: st) s = qm_ev d m c (ls) (qI (x / y) :: st) s := qm_go (by simp only [qm_act, qa_div, if_neg h])
theorem x_irem (d m : Nat) (c : List qm_Ins) (ls st : List qm_AV) (s : qm_Hp) (x y : Int32) (h : ¬ y = 0) : qm_ev d m ((14, [], 0) :: c) ls (qI y :: qI x :: st) s = qm_ev d m c (ls) (qI (x - x / y * y) :: st) s := qm_go (by simp only [qm_act, qa_div, if_neg h])
theorem x_ineg (d m : Nat) (c : List qm_Ins) (ls st : List qm_AV) (s : qm_Hp) (x : Int32) : qm_ev d m ((15, [], 0) :: c) ls (qI x :: st) s = qm_ev d m c (ls) (qI (-x) :: st) s := qm_go rfl
theorem x_ladd (d m : Nat) (c : List qm_Ins) (ls st : List qm_AV) (s : qm_Hp) (x y : Int64) : qm_ev d m ((21, [], 0) :: c) ls (qL y :: qL x :: st) s = qm_ev d m c (ls) (qL (x + y) :: st) s := qm_go rfl
theorem x_lsub (d m : Nat) (c : List qm_Ins) (ls st : List qm_AV) (s : qm_Hp) (x y : Int64) : qm_ev d m ((22, [], 0) :: c) ls (qL y :: qL x :: st) s = qm_ev d m c (ls) (qL (x - y) :: st) s := qm_go rfl
theorem x_lmul (d m : Nat) (c : List qm_Ins) (ls st : List qm_AV) (s : qm_Hp) (x y : Int64) : qm_ev d m ((23, [], 0) :: c) ls (qL y :: qL x :: st) s = qm_ev d m c (ls) (qL (x * y) :: st) s := qm_go rfl
theorem x_land (d m : Nat) (c : List qm_Ins) (ls st : List qm_AV) (s : qm_Hp) (x y : Int64) : qm_ev d m ((26, [], 0) :: c) ls (qL y :: qL x :: st) s = qm_ev d m c (ls) (qL (x &&& y) :: st) s := qm_go rfl
theorem x_lor (d m : Nat) (c : List qm_Ins) (ls st : List qm_AV) (s : qm_Hp) (x y : Int64) : qm_ev d m ((27, [], 0) :: c) ls (qL y :: qL x :: st) s = qm_ev d m c (ls) (qL (x ||| y) :: st) s := qm_go rfl
theorem x_ldiv (d m : Nat) (c : List qm_Ins) (ls st : List qm_AV) (s : qm_Hp) (x y : Int64) (h : ¬ y = 0) : qm_ev d m ((24, [], 0) :: c) ls (qL y :: qL x :: st) s = qm_ev d m c (ls) (qL (x / y) :: st) s := qm_go (by simp only [qm_act, qa_ldiv, if_neg h])
theorem x_lneg (d m : Nat) (c : List qm_Ins) (ls st : List qm_AV) (s : qm_Hp) (x : Int64) : qm_ev d m ((25, [], 0) :: c) ls (qL x :: st) s = qm_ev d m c (ls) (qL (-x) :: st) s := qm_go rfl
theorem x_lshl (d m : Nat) (c : List qm_Ins) (ls st : List qm_AV) (s : qm_Hp) (x : Int64) (y : Int32) : qm_ev d m ((28, [], 0) :: c) ls (qI y :: qL x :: st) s = qm_ev d m c (ls) (qL (x <<< (y.toInt64 &&& 63)) :: st) s := qm_go rfl
theorem x_lcmp (d m : Nat) (c : List qm_Ins) (ls st : List qm_AV) (s : qm_Hp) (x y : Int64) : qm_ev d m ((29, [], 0) :: c) ls (qL y :: qL x :: st) s = qm_ev d m c (ls) (qI (lg_cmp x y) :: st) s := qm_go rfl
theorem x_i2l (d m : Nat) (c : List qm_Ins) (ls st : List qm_AV) (s : qm_Hp) (x : Int32) : qm_ev d m ((30, [], 0) :: c) ls (qI x :: st) s = qm_ev d m c (ls) (qL x.toInt64 :: st) s := qm_go rfl
theorem x_l2i (d m : Nat) (c : List qm_Ins) (ls st : List qm_AV) (s : qm_Hp) (x : Int64) : qm_ev d m ((31, [], 0) :: c) ls (qL x :: st) s = qm_ev d m c (ls) (qI x.toInt32 :: st) s := qm_go rfl
theorem x_dupI (d m : Nat) (c : List qm_Ins) (ls st : List qm_AV) (s : qm_Hp) (x : Int32) : qm_ev d m ((32, [], 0) :: c) ls (qI x :: st) s = qm_ev d m c (ls) (qI x :: qI x :: st) s := qm_go rfl
theorem x_dupP (d m : Nat) (c : List qm_Ins) (ls st : List qm_AV) (s : qm_Hp) (x y : Nat) : qm_ev d m ((32, [], 0) :: c) ls (qP x y :: st) s = qm_ev d m c (ls) (qP x y :: qP x y :: st) s := qm_go rfl
theorem x_dup2 (d m : Nat) (c : List qm_Ins) (ls st : List qm_AV) (s : qm_Hp) (x : Int32) (q i : Nat) : qm_ev d m ((33, [], 0) :: c) ls (qI x :: qP q i :: st) s = qm_ev d m c (ls) (qI x :: qP q i :: qI x :: qP q i :: st) s := qm_go (by simp [qm_act, qa_dup2, qm_isL])
theorem x_popI (d m : Nat) (c : List qm_Ins) (ls st : List qm_AV) (s : qm_Hp) (x : Int32) : qm_ev d m ((34, [], 0) :: c) ls (qI x :: st) s = qm_ev d m c (ls) (st) s := qm_go rfl
theorem x_getI (d m : Nat) (c : List qm_Ins) (ls st : List qm_AV) (s : qm_Hp) (k f i : Nat) : qm_ev d m ((40, [k, f], 0) :: c) ls (qP k i :: st) s = qm_ev d m c (ls) (qI (zI s k i f) :: st) s := qm_go (by simp [qm_act, qa_getI])
theorem x_getL (d m : Nat) (c : List qm_Ins) (ls st : List qm_AV) (s : qm_Hp) (k f i : Nat) : qm_ev d m ((41, [k, f], 0) :: c) ls (qP k i :: st) s = qm_ev d m c (ls) (qL (zL s k i f) :: st) s := qm_go (by simp [qm_act, qa_getL])
theorem x_getP0 (d m : Nat) (c : List qm_Ins) (ls st : List qm_AV) (s : qm_Hp) (k f t ad i : Nat) : qm_ev d m ((42, [k, f, t, 0, ad], 0) :: c) ls (qP k i :: st) s = qm_ev d m c (ls) (qP t ad :: st) s := qm_go (by simp [qm_act, qa_getP])
theorem x_getP1 (d m : Nat) (c : List qm_Ins) (ls st : List qm_AV) (s : qm_Hp) (k f t i : Nat) : qm_ev d m ((42, [k, f, t, 1, 0], 0) :: c) ls (qP k i :: st) s = qm_ev d m c (ls) (qP t i :: st) s := qm_go (by simp [qm_act, qa_getP])
theorem x_getM (d m : Nat) (c : List qm_Ins) (ls st : List qm_AV) (s : qm_Hp) (k f i : Nat) : qm_ev d m ((43, [k, f], 0) :: c) ls (qP k i :: st) s = qm_ev d m c (ls) (qP (zP s k i f).1 (zP s k i f).2 :: st) s := qm_go (by simp [qm_act, qa_getM])
theorem x_putI (d m : Nat) (c : List qm_Ins) (ls st : List qm_AV) (s : qm_Hp) (k f i : Nat) (v : Int32) : qm_ev d m ((44, [k, f], 0) :: c) ls (qI v :: qP k i :: st) s = qm_ev d m c (ls) (st) (uI s k i f v) := qm_go (by simp [qm_act, qa_putI])
theorem x_putL (d m : Nat) (c : List qm_Ins) (ls st : List qm_AV) (s : qm_Hp) (k f i : Nat) (v : Int64) : qm_ev d m ((45, [k, f], 0) :: c) ls (qL v :: qP k i :: st) s = qm_ev d m c (ls) (st) (uL s k i f v) := qm_go (by simp [qm_act, qa_putL])
theorem x_putM (d m : Nat) (c : List qm_Ins) (ls st : List qm_AV) (s : qm_Hp) (k f t i j : Nat) : qm_ev d m ((46, [k, f, t], 0) :: c) ls (qP t j :: qP k i :: st) s = qm_ev d m c (ls) (st) (uP s k i f (t, j)) := qm_go (by simp [qm_act, qa_putM])
theorem x_putZ (d m : Nat) (c : List qm_Ins) (ls st : List qm_AV) (s : qm_Hp) (k f i : Nat) (v : Int32) (h : v = 0 ∨ v = 1) : qm_ev d m ((47, [k, f], 0) :: c) ls (qI v :: qP k i :: st) s = qm_ev d m c (ls) (st) (uI s k i f v) := qm_go (by simp [qm_act, qa_putZ, h])
theorem x_iald (d m : Nat) (c : List qm_Ins) (ls st : List qm_AV) (s : qm_Hp) (k i : Nat) (j : Int32) (h : vp_in j (qm_ilen s k)) : qm_ev d m ((50, [], 0) :: c) ls (qI j :: qP k i :: st) s = qm_ev d m c (ls) (qI (zI s k i j.toNatClampNeg) :: st) s := qm_go (by simp only [qm_act, qa_iald]; rw [if_neg h])
theorem x_iast (d m : Nat) (c : List qm_Ins) (ls st : List qm_AV) (s : qm_Hp) (k i : Nat) (j v : Int32) (h : vp_in j (qm_ilen s k)) (hk : ¬ k = 80) : qm_ev d m ((51, [], 0) :: c) ls (qI v :: qI j :: qP k i :: st) s = qm_ev d m c (ls) (st) (uI s k i j.toNatClampNeg v) := qm_go (by simp only [qm_act, qa_iast]; rw [if_neg (fun q => q.elim h hk)])
theorem x_lald (d m : Nat) (c : List qm_Ins) (ls st : List qm_AV) (s : qm_Hp) (k i : Nat) (j : Int32) (h : vp_in j (qm_llen k)) : qm_ev d m ((52, [], 0) :: c) ls (qI j :: qP k i :: st) s = qm_ev d m c (ls) (qL (zL s k i j.toNatClampNeg) :: st) s := qm_go (by simp only [qm_act, qa_lald]; rw [if_neg h])
theorem x_last (d m : Nat) (c : List qm_Ins) (ls st : List qm_AV) (s : qm_Hp) (k i : Nat) (j : Int32) (v : Int64) (h : vp_in j (qm_llen k)) : qm_ev d m ((53, [], 0) :: c) ls (qL v :: qI j :: qP k i :: st) s = qm_ev d m c (ls) (st) (uL s k i j.toNatClampNeg v) := qm_go (by simp only [qm_act, qa_last]; rw [if_neg h])
theorem x_bald (d m : Nat) (c : List qm_Ins) (ls st : List qm_AV) (s : qm_Hp) (k i : Nat) (j : Int32) (h : vp_in j (qm_blen k)) : qm_ev d m ((54, [], 0) :: c) ls (qI j :: qP k i :: st) s = qm_ev d m c (ls) (qI (zI s k i j.toNatClampNeg) :: st) s := qm_go (by simp only [qm_act, qa_bald]; rw [if_neg h])
theorem x_bast (d m : Nat) (c : List qm_Ins) (ls st : List qm_AV) (s : qm_Hp) (k i : Nat) (j v : Int32) (h : vp_in j (qm_blen k)) (hv : v = 0 ∨ v = 1) : qm_ev d m ((55, [], 0) :: c) ls (qI v :: qI j :: qP k i :: st) s = qm_ev d m c (ls) (st) (uI s k i j.toNatClampNeg v) := qm_go (by simp only [qm_act, qa_bast]; rw [if_neg (fun q => q.elim h (fun g => g hv))])
theorem x_aald (d m : Nat) (c : List qm_Ins) (ls st : List qm_AV) (s : qm_Hp) (k i : Nat) (j : Int32) (h : vp_in j (qm_rlen k)) : qm_ev d m ((56, [], 0) :: c) ls (qI j :: qP k i :: st) s = qm_ev d m c (ls) (qP (qm_rel k).1 ((qm_rel k).2 + j.toNatClampNeg) :: st) s := qm_go (by simp only [qm_act, qa_aald]; rw [if_neg h])
theorem x_alen (d m : Nat) (c : List qm_Ins) (ls st : List qm_AV) (s : qm_Hp) (k i : Nat) (h : k = 35 ∨ k = 42 ∨ k = 54 ∨ k = 55 ∨ k = 80) : qm_ev d m ((57, [], 0) :: c) ls (qP k i :: st) s = qm_ev d m c (ls) (qI (Int32.ofNat (qm_ilen s k)) :: st) s := qm_go (by simp only [qm_act, qa_alen]; rw [if_pos h])
theorem x_ldstr (d m : Nat) (c : List qm_Ins) (ls st : List qm_AV) (s : qm_Hp)  : qm_ev d m ((58, [], 0) :: c) ls (st) s = qm_ev d m c (ls) (qP 81 0 :: st) s := qm_go rfl
theorem x_iceq (d m : Nat) (c : List qm_Ins) (ls st : List qm_AV) (s : qm_Hp) (b : Nat) (x y : Int32) : qm_ev d m ((60, [0, b], 0) :: c) ls (qI y :: qI x :: st) s = if x = y then qm_evB d m b ls st s else qm_ev d m c ls st s := by
  by_cases h : x = y
  · rw [if_pos h]; exact qm_jump (by simp only [qm_act, qa_icmp, qm_cond, decide_eq_true h, if_pos])
  · rw [if_neg h]; exact qm_go (by simp only [qm_act, qa_icmp, qm_cond, decide_eq_false h]; rfl)
theorem x_ifeq (d m : Nat) (c : List qm_Ins) (ls st : List qm_AV) (s : qm_Hp) (b : Nat) (x : Int32) : qm_ev d m ((61, [0, b], 0) :: c) ls (qI x :: st) s = if x = 0 then qm_evB d m b ls st s else qm_ev d m c ls st s := by
  by_cases h : x = 0
  · rw [if_pos h]; exact qm_jump (by simp only [qm_act, qa_if, qm_cond, decide_eq_true h, if_pos])
  · rw [if_neg h]; exact qm_go (by simp only [qm_act, qa_if, qm_cond, decide_eq_false h]; rfl)
theorem x_icne (d m : Nat) (c : List qm_Ins) (ls st : List qm_AV) (s : qm_Hp) (b : Nat) (x y : Int32) : qm_ev d m ((60, [1, b], 0) :: c) ls (qI y :: qI x :: st) s = if ¬ x = y then qm_evB d m b ls st s else qm_ev d m c ls st s := by
  by_cases h : ¬ x = y
  · rw [if_pos h]; exact qm_jump (by simp only [qm_act, qa_icmp, qm_cond, decide_eq_true h, if_pos])
  · rw [if_neg h]; exact qm_go (by simp only [qm_act, qa_icmp, qm_cond, decide_eq_false h]; rfl)
theorem x_ifne (d m : Nat) (c : List qm_Ins) (ls st : List qm_AV) (s : qm_Hp) (b : Nat) (x : Int32) : qm_ev d m ((61, [1, b], 0) :: c) ls (qI x :: st) s = if ¬ x = 0 then qm_evB d m b ls st s else qm_ev d m c ls st s := by
  by_cases h : ¬ x = 0
  · rw [if_pos h]; exact qm_jump (by simp only [qm_act, qa_if, qm_cond, decide_eq_true h, if_pos])
  · rw [if_neg h]; exact qm_go (by simp only [qm_act, qa_if, qm_cond, decide_eq_false h]; rfl)
theorem x_iclt (d m : Nat) (c : List qm_Ins) (ls st : List qm_AV) (s : qm_Hp) (b : Nat) (x y : Int32) : qm_ev d m ((60, [2, b], 0) :: c) ls (qI y :: qI x :: st) s = if x < y then qm_evB d m b ls st s else qm_ev d m c ls st s := by
  by_cases h : x < y
  · rw [if_pos h]; exact qm_jump (by simp only [qm_act, qa_icmp, qm_cond, decide_eq_true h, if_pos])
  · rw [if_neg h]; exact qm_go (by simp only [qm_act, qa_icmp, qm_cond, decide_eq_false h]; rfl)
theorem x_iflt (d m : Nat) (c : List qm_Ins) (ls st : List qm_AV) (s : qm_Hp) (b : Nat) (x : Int32) : qm_ev d m ((61, [2, b], 0) :: c) ls (qI x :: st) s = if x < 0 then qm_evB d m b ls st s else qm_ev d m c ls st s := by
  by_cases h : x < 0
  · rw [if_pos h]; exact qm_jump (by simp only [qm_act, qa_if, qm_cond, decide_eq_true h, if_pos])
  · rw [if_neg h]; exact qm_go (by simp only [qm_act, qa_if, qm_cond, decide_eq_false h]; rfl)
theorem x_icge (d m : Nat) (c : List qm_Ins) (ls st : List qm_AV) (s : qm_Hp) (b : Nat) (x y : Int32) : qm_ev d m ((60, [3, b], 0) :: c) ls (qI y :: qI x :: st) s = if y ≤ x then qm_evB d m b ls st s else qm_ev d m c ls st s := by
  by_cases h : y ≤ x
  · rw [if_pos h]; exact qm_jump (by simp only [qm_act, qa_icmp, qm_cond, decide_eq_true h, if_pos])
  · rw [if_neg h]; exact qm_go (by simp only [qm_act, qa_icmp, qm_cond, decide_eq_false h]; rfl)
theorem x_ifge (d m : Nat) (c : List qm_Ins) (ls st : List qm_AV) (s : qm_Hp) (b : Nat) (x : Int32) : qm_ev d m ((61, [3, b], 0) :: c) ls (qI x :: st) s = if 0 ≤ x then qm_evB d m b ls st s else qm_ev d m c ls st s := by
  by_cases h : 0 ≤ x
  · rw [if_pos h]; exact qm_jump (by simp only [qm_act, qa_if, qm_cond, decide_eq_true h, if_pos])
  · rw [if_neg h]; exact qm_go (by simp only [qm_act, qa_if, qm_cond, decide_eq_false h]; rfl)
theorem x_icgt (d m : Nat) (c : List qm_Ins) (ls st : List qm_AV) (s : qm_Hp) (b : Nat) (x y : Int32) : qm_ev d m ((60, [4, b], 0) :: c) ls (qI y :: qI x :: st) s = if y < x then qm_evB d m b ls st s else qm_ev d m c ls st s := by
  by_cases h : y < x
  · rw [if_pos h]; exact qm_jump (by simp only [qm_act, qa_icmp, qm_cond, decide_eq_true h, if_pos])
  · rw [if_neg h]; exact qm_go (by simp only [qm_act, qa_icmp, qm_cond, decide_eq_false h]; rfl)
theorem x_ifgt (d m : Nat) (c : List qm_Ins) (ls st : List qm_AV) (s : qm_Hp) (b : Nat) (x : Int32) : qm_ev d m ((61, [4, b], 0) :: c) ls (qI x :: st) s = if 0 < x then qm_evB d m b ls st s else qm_ev d m c ls st s := by
  by_cases h : 0 < x
  · rw [if_pos h]; exact qm_jump (by simp only [qm_act, qa_if, qm_cond, decide_eq_true h, if_pos])
  · rw [if_neg h]; exact qm_go (by simp only [qm_act, qa_if, qm_cond, decide_eq_false h]; rfl)
theorem x_icle (d m : Nat) (c : List qm_Ins) (ls st : List qm_AV) (s : qm_Hp) (b : Nat) (x y : Int32) : qm_ev d m ((60, [5, b], 0) :: c) ls (qI y :: qI x :: st) s = if x ≤ y then qm_evB d m b ls st s else qm_ev d m c ls st s := by
  by_cases h : x ≤ y
  · rw [if_pos h]; exact qm_jump (by simp only [qm_act, qa_icmp, qm_cond, decide_eq_true h, if_pos])
  · rw [if_neg h]; exact qm_go (by simp only [qm_act, qa_icmp, qm_cond, decide_eq_false h]; rfl)
theorem x_ifle (d m : Nat) (c : List qm_Ins) (ls st : List qm_AV) (s : qm_Hp) (b : Nat) (x : Int32) : qm_ev d m ((61, [5, b], 0) :: c) ls (qI x :: st) s = if x ≤ 0 then qm_evB d m b ls st s else qm_ev d m c ls st s := by
  by_cases h : x ≤ 0
  · rw [if_pos h]; exact qm_jump (by simp only [qm_act, qa_if, qm_cond, decide_eq_true h, if_pos])
  · rw [if_neg h]; exact qm_go (by simp only [qm_act, qa_if, qm_cond, decide_eq_false h]; rfl)
theorem x_null (d m : Nat) (c : List qm_Ins) (ls st : List qm_AV) (s : qm_Hp) (b q i : Nat) : qm_ev d m ((62, [b], 0) :: c) ls (qP q i :: st) s = if q = 0 then qm_evB d m b ls st s else qm_ev d m c ls st s := by
  by_cases h : q = 0
  · rw [if_pos h]; exact qm_jump (by simp only [qm_act, qa_null, if_pos h])
  · rw [if_neg h]; exact qm_go (by simp only [qm_act, qa_null, if_neg h])
theorem x_goto (d m : Nat) (c : List qm_Ins) (ls st : List qm_AV) (s : qm_Hp) (b : Nat) : qm_ev d m ((63, [b], 0) :: c) ls (st) s = qm_evB d m b ls st s := qm_jump rfl
theorem x_fall (d m : Nat) (c : List qm_Ins) (ls st : List qm_AV) (s : qm_Hp) (b : Nat) : qm_ev d m ((64, [b], 0) :: c) ls (st) s = qm_evB d m b ls st s := qm_jump rfl
theorem x_tsw (d m : Nat) (c : List qm_Ins) (ls st : List qm_AV) (s : qm_Hp) (df : Nat) (bs : List Nat) (lo : Int) (x : Int32) : qm_ev d m ((65, df :: bs, lo) :: c) ls (qI x :: st) s = qm_evB d m (qm_sw bs lo x df) ls st s := qm_jump rfl
theorem x_lsw (d m : Nat) (c : List qm_Ins) (ls st : List qm_AV) (s : qm_Hp) (df : Nat) (bs : List Nat) (x : Int32) : qm_ev d m ((66, df :: bs, 0) :: c) ls (qI x :: st) s = qm_evB d m (qm_lk bs x df) ls st s := qm_jump rfl
theorem x_iret (d m : Nat) (c : List qm_Ins) (ls : List qm_AV) (s : qm_Hp) (x : Int32) : qm_ev d m ((70, [], 0) :: c) ls [qI x] s = some (some (qI x), s) := qm_ret rfl
theorem x_lret (d m : Nat) (c : List qm_Ins) (ls : List qm_AV) (s : qm_Hp) (x : Int64) : qm_ev d m ((71, [], 0) :: c) ls [qL x] s = some (some (qL x), s) := qm_ret rfl
theorem x_vret (d m : Nat) (c : List qm_Ins) (ls : List qm_AV) (s : qm_Hp) : qm_ev d m ((72, [], 0) :: c) ls [] s = some (none, s) := qm_ret rfl
theorem x_call0 (d m : Nat) (c : List qm_Ins) (ls st : List qm_AV) (s : qm_Hp) (f : Nat) (h : qm_wid st ≤ 8) : qm_ev (d + 1) m ((80, [f, 0], 0) :: c) ls (st) s = (qm_evM d f [] s).bind (fun r => qm_ev (d + 1) m c ls (qm_push r.1 st) r.2) := qm_call (by simp [qm_act, qa_call, h])
theorem x_call1 (d m : Nat) (c : List qm_Ins) (ls st : List qm_AV) (s : qm_Hp) (f : Nat) (a0 : qm_AV) (h : qm_wid st ≤ 8) : qm_ev (d + 1) m ((80, [f, 1], 0) :: c) ls (a0 :: st) s = (qm_evM d f [a0] s).bind (fun r => qm_ev (d + 1) m c ls (qm_push r.1 st) r.2) := qm_call (by simp [qm_act, qa_call, h])
theorem x_call2 (d m : Nat) (c : List qm_Ins) (ls st : List qm_AV) (s : qm_Hp) (f : Nat) (a0 a1 : qm_AV) (h : qm_wid st ≤ 8) : qm_ev (d + 1) m ((80, [f, 2], 0) :: c) ls (a1 :: a0 :: st) s = (qm_evM d f [a0, a1] s).bind (fun r => qm_ev (d + 1) m c ls (qm_push r.1 st) r.2) := qm_call (by simp [qm_act, qa_call, h])
theorem x_call3 (d m : Nat) (c : List qm_Ins) (ls st : List qm_AV) (s : qm_Hp) (f : Nat) (a0 a1 a2 : qm_AV) (h : qm_wid st ≤ 8) : qm_ev (d + 1) m ((80, [f, 3], 0) :: c) ls (a2 :: a1 :: a0 :: st) s = (qm_evM d f [a0, a1, a2] s).bind (fun r => qm_ev (d + 1) m c ls (qm_push r.1 st) r.2) := qm_call (by simp [qm_act, qa_call, h])
theorem x_call4 (d m : Nat) (c : List qm_Ins) (ls st : List qm_AV) (s : qm_Hp) (f : Nat) (a0 a1 a2 a3 : qm_AV) (h : qm_wid st ≤ 8) : qm_ev (d + 1) m ((80, [f, 4], 0) :: c) ls (a3 :: a2 :: a1 :: a0 :: st) s = (qm_evM d f [a0, a1, a2, a3] s).bind (fun r => qm_ev (d + 1) m c ls (qm_push r.1 st) r.2) := qm_call (by simp [qm_act, qa_call, h])
theorem x_call5 (d m : Nat) (c : List qm_Ins) (ls st : List qm_AV) (s : qm_Hp) (f : Nat) (a0 a1 a2 a3 a4 : qm_AV) (h : qm_wid st ≤ 8) : qm_ev (d + 1) m ((80, [f, 5], 0) :: c) ls (a4 :: a3 :: a2 :: a1 :: a0 :: st) s = (qm_evM d f [a0, a1, a2, a3, a4] s).bind (fun r => qm_ev (d + 1) m c ls (qm_push r.1 st) r.2) := qm_call (by simp [qm_act, qa_call, h])
theorem x_call6 (d m : Nat) (c : List qm_Ins) (ls st : List qm_AV) (s : qm_Hp) (f : Nat) (a0 a1 a2 a3 a4 a5 : qm_AV) (h : qm_wid st ≤ 8) : qm_ev (d + 1) m ((80, [f, 6], 0) :: c) ls (a5 :: a4 :: a3 :: a2 :: a1 :: a0 :: st) s = (qm_evM d f [a0, a1, a2, a3, a4, a5] s).bind (fun r => qm_ev (d + 1) m c ls (qm_push r.1 st) r.2) := qm_call (by simp [qm_act, qa_call, h])
theorem x_call7 (d m : Nat) (c : List qm_Ins) (ls st : List qm_AV) (s : qm_Hp) (f : Nat) (a0 a1 a2 a3 a4 a5 a6 : qm_AV) (h : qm_wid st ≤ 8) : qm_ev (d + 1) m ((80, [f, 7], 0) :: c) ls (a6 :: a5 :: a4 :: a3 :: a2 :: a1 :: a0 :: st) s = (qm_evM d f [a0, a1, a2, a3, a4, a5, a6] s).bind (fun r => qm_ev (d + 1) m c ls (qm_push r.1 st) r.2) := qm_call (by simp [qm_act, qa_call, h])
theorem x_maxi (d m : Nat) (c : List qm_Ins) (ls st : List qm_AV) (s : qm_Hp) (x y : Int32) (h : qm_wid st ≤ 8) : qm_ev d m ((81, [], 0) :: c) ls (qI y :: qI x :: st) s = qm_ev d m c (ls) (qI (if x < y then y else x) :: st) s := qm_go (by simp only [qm_act, qa_m2, if_pos h])
theorem x_mini (d m : Nat) (c : List qm_Ins) (ls st : List qm_AV) (s : qm_Hp) (x y : Int32) (h : qm_wid st ≤ 8) : qm_ev d m ((82, [], 0) :: c) ls (qI y :: qI x :: st) s = qm_ev d m c (ls) (qI (if y < x then y else x) :: st) s := qm_go (by simp only [qm_act, qa_m2, if_pos h])
theorem x_absi (d m : Nat) (c : List qm_Ins) (ls st : List qm_AV) (s : qm_Hp) (x : Int32) (h : qm_wid st ≤ 8) : qm_ev d m ((83, [], 0) :: c) ls (qI x :: st) s = qm_ev d m c (ls) (qI (if 0 ≤ x then x else 0 - x) :: st) s := qm_go (by simp only [qm_act, qa_abs, if_pos h])
theorem x_maxl (d m : Nat) (c : List qm_Ins) (ls st : List qm_AV) (s : qm_Hp) (x y : Int64) (h : qm_wid st ≤ 8) : qm_ev d m ((84, [], 0) :: c) ls (qL y :: qL x :: st) s = qm_ev d m c (ls) (qL (if x < y then y else x) :: st) s := qm_go (by simp only [qm_act, qa_lm2, if_pos h])
theorem x_minl (d m : Nat) (c : List qm_Ins) (ls st : List qm_AV) (s : qm_Hp) (x y : Int64) (h : qm_wid st ≤ 8) : qm_ev d m ((85, [], 0) :: c) ls (qL y :: qL x :: st) s = qm_ev d m c (ls) (qL (if y < x then y else x) :: st) s := qm_go (by simp only [qm_act, qa_lm2, if_pos h])
theorem x_copy (d m : Nat) (c : List qm_Ins) (ls st : List qm_AV) (s : qm_Hp) (q i q2 i2 : Nat) (sp dp n : Int32) (h : ¬ ((sp < 0 ∨ dp < 0 ∨ n < 0) ∨ qm_ilen s q < sp.toNatClampNeg + n.toNatClampNeg ∨ qm_ilen s q2 < dp.toNatClampNeg + n.toNatClampNeg ∨ q = 80 ∨ q2 = 80 ∨ 8 < qm_wid st)) : qm_ev d m ((86, [], 0) :: c) ls (qI n :: qI dp :: qP q2 i2 :: qI sp :: qP q i :: st) s = qm_ev d m c (ls) (st) (uC s q i sp.toNatClampNeg q2 i2 dp.toNatClampNeg n.toNatClampNeg) := qm_go (by simp only [qm_act, qa_copy]; rw [if_neg h])
theorem x_slen (d m : Nat) (c : List qm_Ins) (ls st : List qm_AV) (s : qm_Hp) (i : Nat) (h : qm_wid st ≤ 8) : qm_ev d m ((87, [], 0) :: c) ls (qP 81 i :: st) s = qm_ev d m c (ls) (qI (Int32.ofNat qm_str.length) :: st) s := qm_go (by simp [qm_act, qa_slen, h])
theorem x_char (d m : Nat) (c : List qm_Ins) (ls st : List qm_AV) (s : qm_Hp) (i : Nat) (j : Int32) (h : qm_wid st ≤ 8) (hj : vp_in j qm_str.length) : qm_ev d m ((88, [], 0) :: c) ls (qI j :: qP 81 i :: st) s = qm_ev d m c (ls) (qI (Int32.ofNat (qm_str.getD j.toNatClampNeg 0)) :: st) s := qm_go (by simp only [qm_act, qa_char]; rw [if_pos ⟨trivial, h, hj⟩])
end
section
/-! the step equations in one bundle for simp, and what it needs beside them -/
theorem qb_some (a : Option qm_AV × qm_Hp) (f : Option qm_AV × qm_Hp → Option (Option qm_AV × qm_Hp)) : (some a).bind f = f a := rfl
theorem qm_push_s (v : qm_AV) (st : List qm_AV) : qm_push (some v) st = v :: st := rfl
theorem qm_push_n (st : List qm_AV) : qm_push none st = st := rfl
theorem qm_lg_0 (v : qm_AV) (l : List qm_AV) : qm_lg (v :: l) 0 = v := rfl
theorem qm_lg_s (v : qm_AV) (l : List qm_AV) (n : Nat) : qm_lg (v :: l) (n + 1) = qm_lg l n := rfl
theorem qm_ls_0 (v x : qm_AV) (l : List qm_AV) : qm_ls (v :: l) 0 x = x :: l := rfl
theorem qm_ls_s (v x : qm_AV) (l : List qm_AV) (n : Nat) : qm_ls (v :: l) (n + 1) x = v :: qm_ls l n x := rfl
theorem qm_s1_0 (x : qm_AV) (l : List qm_AV) : qm_s1 l 0 x = qm_ls l 0 x := rfl
theorem qm_s1_s (x : qm_AV) (l : List qm_AV) (n : Nat) : qm_s1 l (n + 1) x = if qm_isL (qm_lg l n) = true then qm_ls (qm_ls l n qU) (n + 1) x else qm_ls l (n + 1) x := rfl
theorem qm_s2_e (x : qm_AV) (l : List qm_AV) (n : Nat) : qm_s2 l n x = qm_ls (qm_s1 l n x) (n + 1) qU := rfl
theorem qm_isL_I (x : Int32) : qm_isL (qI x) = false := rfl
theorem qm_isL_L (x : Int64) : qm_isL (qL x) = true := rfl
theorem qm_isL_P (k i : Nat) : qm_isL (qP k i) = false := rfl
theorem qm_wid_n : qm_wid [] = 0 := rfl
theorem qm_wid_I (x : Int32) (l : List qm_AV) : qm_wid (qI x :: l) = qm_wid l + 1 := by simp [qm_wid, qm_isL]; omega
theorem qm_wid_L (x : Int64) (l : List qm_AV) : qm_wid (qL x :: l) = qm_wid l + 2 := by simp [qm_wid, qm_isL]; omega
theorem qm_wid_P (k i : Nat) (l : List qm_AV) : qm_wid (qP k i :: l) = qm_wid l + 1 := by simp [qm_wid, qm_isL]; omega
def qx := And.intro x_icst <| And.intro x_lcst <| And.intro x_iload <| And.intro x_lload <| And.intro x_aload <| And.intro x_istore <| And.intro x_lstore <| And.intro x_astore <| And.intro x_iinc <| And.intro x_iadd <| And.intro x_isub <| And.intro x_imul <| And.intro x_iand <| And.intro x_ior <| And.intro x_ishl <| And.intro x_ishr <| And.intro x_iushr <| And.intro x_idiv <| And.intro x_irem <| And.intro x_ineg <| And.intro x_ladd <| And.intro x_lsub <| And.intro x_lmul <| And.intro x_land <| And.intro x_lor <| And.intro x_ldiv <| And.intro x_lneg <| And.intro x_lshl <| And.intro x_lcmp <| And.intro x_i2l <| And.intro x_l2i <| And.intro x_dupI <| And.intro x_dupP <| And.intro x_dup2 <| And.intro x_popI <| And.intro x_getI <| And.intro x_getL <| And.intro x_getP0 <| And.intro x_getP1 <| And.intro x_getM <| And.intro x_putI <| And.intro x_putL <| And.intro x_putM <| And.intro x_putZ <| And.intro x_iald <| And.intro x_iast <| And.intro x_lald <| And.intro x_last <| And.intro x_bald <| And.intro x_bast <| And.intro x_aald <| And.intro x_alen <| And.intro x_ldstr <| And.intro x_iceq <| And.intro x_ifeq <| And.intro x_icne <| And.intro x_ifne <| And.intro x_iclt <| And.intro x_iflt <| And.intro x_icge <| And.intro x_ifge <| And.intro x_icgt <| And.intro x_ifgt <| And.intro x_icle <| And.intro x_ifle <| And.intro x_null <| And.intro x_goto <| And.intro x_fall <| And.intro x_tsw <| And.intro x_lsw <| And.intro x_iret <| And.intro x_lret <| And.intro x_vret <| And.intro x_call0 <| And.intro x_call1 <| And.intro x_call2 <| And.intro x_call3 <| And.intro x_call4 <| And.intro x_call5 <| And.intro x_call6 <| And.intro x_call7 <| And.intro x_maxi <| And.intro x_mini <| And.intro x_absi <| And.intro x_maxl <| And.intro x_minl <| And.intro x_copy <| And.intro x_slen x_char
def qe := And.intro qm_ldI_e <| And.intro qm_ldL_e <| And.intro qm_ldP_e <| And.intro qb_some <| And.intro qm_push_s <| And.intro qm_push_n <| And.intro qm_lg_0 <| And.intro qm_lg_s <| And.intro qm_s1_0 <| And.intro qm_s1_s <| And.intro qm_s2_e <| And.intro qm_ls_0 <| And.intro qm_ls_s <| And.intro qm_isL_I <| And.intro qm_isL_L <| And.intro qm_isL_P <| And.intro qm_wid_n <| And.intro qm_wid_I <| And.intro qm_wid_L qm_wid_P
theorem il_11 (s : qm_Hp) : qm_ilen s 11 = 48 := rfl
theorem il_12 (s : qm_Hp) : qm_ilen s 12 = 48 := rfl
theorem il_13 (s : qm_Hp) : qm_ilen s 13 = 48 := rfl
theorem il_14 (s : qm_Hp) : qm_ilen s 14 = 48 := rfl
theorem il_15 (s : qm_Hp) : qm_ilen s 15 = 48 := rfl
theorem il_16 (s : qm_Hp) : qm_ilen s 16 = 48 := rfl
theorem il_17 (s : qm_Hp) : qm_ilen s 17 = 6 := rfl
theorem il_21 (s : qm_Hp) : qm_ilen s 21 = 12 := rfl
theorem il_22 (s : qm_Hp) : qm_ilen s 22 = 12 := rfl
theorem il_23 (s : qm_Hp) : qm_ilen s 23 = 12 := rfl
theorem il_24 (s : qm_Hp) : qm_ilen s 24 = 12 := rfl
theorem il_25 (s : qm_Hp) : qm_ilen s 25 = 40 := rfl
theorem il_26 (s : qm_Hp) : qm_ilen s 26 = 4 := rfl
theorem il_27 (s : qm_Hp) : qm_ilen s 27 = 4 := rfl
theorem il_28 (s : qm_Hp) : qm_ilen s 28 = 6 := rfl
theorem il_31 (s : qm_Hp) : qm_ilen s 31 = 300 := rfl
theorem il_32 (s : qm_Hp) : qm_ilen s 32 = 20 := rfl
theorem il_33 (s : qm_Hp) : qm_ilen s 33 = 20 := rfl
theorem il_34 (s : qm_Hp) : qm_ilen s 34 = 20 := rfl
theorem il_35 (s : qm_Hp) : qm_ilen s 35 = 5 := rfl
theorem il_41 (s : qm_Hp) : qm_ilen s 41 = 17 := rfl
theorem il_42 (s : qm_Hp) : qm_ilen s 42 = 40 := rfl
theorem il_43 (s : qm_Hp) : qm_ilen s 43 = 301 := rfl
theorem il_44 (s : qm_Hp) : qm_ilen s 44 = 301 := rfl
theorem il_45 (s : qm_Hp) : qm_ilen s 45 = 301 := rfl
theorem il_47 (s : qm_Hp) : qm_ilen s 47 = 5 := rfl
theorem il_48 (s : qm_Hp) : qm_ilen s 48 = 5 := rfl
theorem il_52 (s : qm_Hp) : qm_ilen s 52 = 300 := rfl
theorem il_53 (s : qm_Hp) : qm_ilen s 53 = 48 := rfl
theorem il_54 (s : qm_Hp) : qm_ilen s 54 = 8 := rfl
theorem il_55 (s : qm_Hp) : qm_ilen s 55 = 8 := rfl
theorem il_61 (s : qm_Hp) : qm_ilen s 61 = 3360 := rfl
theorem il_62 (s : qm_Hp) : qm_ilen s 62 = 2880 := rfl
theorem il_63 (s : qm_Hp) : qm_ilen s 63 = 300 := rfl
theorem il_64 (s : qm_Hp) : qm_ilen s 64 = 160 := rfl
theorem il_65 (s : qm_Hp) : qm_ilen s 65 = 17 := rfl
theorem il_68 (s : qm_Hp) : qm_ilen s 68 = 48 := rfl
theorem il_69 (s : qm_Hp) : qm_ilen s 69 = 5 := rfl
theorem il_70 (s : qm_Hp) : qm_ilen s 70 = 6 := rfl
theorem il_71 (s : qm_Hp) : qm_ilen s 71 = 5 := rfl
theorem il_72 (s : qm_Hp) : qm_ilen s 72 = 8 := rfl
theorem il_73 (s : qm_Hp) : qm_ilen s 73 = 8 := rfl
theorem il_74 (s : qm_Hp) : qm_ilen s 74 = 48 := rfl
theorem il_75 (s : qm_Hp) : qm_ilen s 75 = 48 := rfl
def qil := And.intro il_11 <| And.intro il_12 <| And.intro il_13 <| And.intro il_14 <| And.intro il_15 <| And.intro il_16 <| And.intro il_17 <| And.intro il_21 <| And.intro il_22 <| And.intro il_23 <| And.intro il_24 <| And.intro il_25 <| And.intro il_26 <| And.intro il_27 <| And.intro il_28 <| And.intro il_31 <| And.intro il_32 <| And.intro il_33 <| And.intro il_34 <| And.intro il_35 <| And.intro il_41 <| And.intro il_42 <| And.intro il_43 <| And.intro il_44 <| And.intro il_45 <| And.intro il_47 <| And.intro il_48 <| And.intro il_52 <| And.intro il_53 <| And.intro il_54 <| And.intro il_55 <| And.intro il_61 <| And.intro il_62 <| And.intro il_63 <| And.intro il_64 <| And.intro il_65 <| And.intro il_68 <| And.intro il_69 <| And.intro il_70 <| And.intro il_71 <| And.intro il_72 <| And.intro il_73 <| And.intro il_74 il_75
end
section
theorem e_P_become (d : Nat) (s : qm_Hp) (a0 : Nat) (a1 : Nat) : qm_evM d jP_become [qP 3 a0, qP 3 a1] s = qm_evB d jP_become 0 [qP 3 a0, qP 3 a1] [] s := rfl
theorem b_P_become_0 (d : Nat) (ls st : List qm_AV) (s : qm_Hp) : qm_evB d jP_become 0 ls st s = qm_ev d jP_become [(4, [1], 0), (42, [3, 1, 11, 1, 0], 0), (0, [], 0), (4, [0], 0), (42, [3, 1, 11, 1, 0], 0), (0, [], 0), (0, [], 48), (86, [], 0), (4, [1], 0), (42, [3, 2, 12, 1, 0], 0), (0, [], 0), (4, [0], 0), (42, [3, 2, 12, 1, 0], 0), (0, [], 0), (0, [], 48), (86, [], 0), (4, [1], 0), (42, [3, 3, 13, 1, 0], 0), (0, [], 0), (4, [0], 0), (42, [3, 3, 13, 1, 0], 0), (0, [], 0), (0, [], 48), (86, [], 0), (4, [1], 0), (42, [3, 4, 14, 1, 0], 0), (0, [], 0), (4, [0], 0), (42, [3, 4, 14, 1, 0], 0), (0, [], 0), (0, [], 48), (86, [], 0), (4, [1], 0), (42, [3, 5, 15, 1, 0], 0), (0, [], 0), (4, [0], 0), (42, [3, 5, 15, 1, 0], 0), (0, [], 0), (0, [], 48), (86, [], 0), (4, [1], 0), (42, [3, 6, 16, 1, 0], 0), (0, [], 0), (4, [0], 0), (42, [3, 6, 16, 1, 0], 0), (0, [], 0), (0, [], 48), (86, [], 0), (4, [1], 0), (42, [3, 7, 17, 1, 0], 0), (0, [], 0), (4, [0], 0), (42, [3, 7, 17, 1, 0], 0), (0, [], 0), (0, [], 6), (86, [], 0), (4, [0], 0), (4, [1], 0), (40, [3, 8], 0), (44, [3, 8], 0), (4, [0], 0), (4, [1], 0), (40, [3, 9], 0), (44, [3, 9], 0), (4, [0], 0), (4, [1], 0), (40, [3, 10], 0), (44, [3, 10], 0), (4, [0], 0), (4, [1], 0), (40, [3, 11], 0), (44, [3, 11], 0), (4, [0], 0), (4, [1], 0), (40, [3, 12], 0), (44, [3, 12], 0), (72, [], 0)] ls st s := rfl
theorem e_P_isFallen (d : Nat) (s : qm_Hp) (a0 : Nat) : qm_evM d jP_isFallen [qP 3 a0] s = qm_evB d jP_isFallen 0 [qP 3 a0] [] s := rfl
theorem b_P_isFallen_0 (d : Nat) (ls st : List qm_AV) (s : qm_Hp) : qm_evB d jP_isFallen 0 ls st s = qm_ev d jP_isFallen [(4, [0], 0), (40, [3, 9], 0), (0, [], -1), (60, [0, 1], 0), (0, [], 1), (63, [2], 0)] ls st s := rfl
theorem b_P_isFallen_1 (d : Nat) (ls st : List qm_AV) (s : qm_Hp) : qm_evB d jP_isFallen 1 ls st s = qm_ev d jP_isFallen [(0, [], 0), (64, [2], 0)] ls st s := rfl
theorem b_P_isFallen_2 (d : Nat) (ls st : List qm_AV) (s : qm_Hp) : qm_evB d jP_isFallen 2 ls st s = qm_ev d jP_isFallen [(70, [], 0)] ls st s := rfl
theorem e_P_holds (d : Nat) (s : qm_Hp) (a0 : Nat) (a1 : Int32) (a2 : Int32) : qm_evM d jP_holds [qP 3 a0, qI a1, qI a2] s = qm_evB d jP_holds 0 [qP 3 a0, qI a1, qI a2] [] s := rfl
theorem b_P_holds_0 (d : Nat) (ls st : List qm_AV) (s : qm_Hp) : qm_evB d jP_holds 0 ls st s = qm_ev d jP_holds [(2, [1], 0), (61, [2, 1], 0), (2, [1], 0), (4, [0], 0), (40, [3, 0], 0), (60, [3, 1], 0), (2, [2], 0), (61, [2, 1], 0), (2, [2], 0), (4, [0], 0), (42, [3, 7, 17, 1, 0], 0), (2, [1], 0), (50, [], 0), (60, [3, 1], 0), (0, [], 1), (63, [2], 0)] ls st s := rfl
theorem b_P_holds_1 (d : Nat) (ls st : List qm_AV) (s : qm_Hp) : qm_evB d jP_holds 1 ls st s = qm_ev d jP_holds [(0, [], 0), (64, [2], 0)] ls st s := rfl
theorem b_P_holds_2 (d : Nat) (ls st : List qm_AV) (s : qm_Hp) : qm_evB d jP_holds 2 ls st s = qm_ev d jP_holds [(70, [], 0)] ls st s := rfl
theorem e_P_clear (d : Nat) (s : qm_Hp) (a0 : Nat) : qm_evM d jP_clear [qP 3 a0] s = qm_evB d jP_clear 0 [qP 3 a0, qU] [] s := rfl
theorem b_P_clear_0 (d : Nat) (ls st : List qm_AV) (s : qm_Hp) : qm_evB d jP_clear 0 ls st s = qm_ev d jP_clear [(0, [], 0), (5, [1], 0), (64, [1], 0)] ls st s := rfl
theorem b_P_clear_1 (d : Nat) (ls st : List qm_AV) (s : qm_Hp) : qm_evB d jP_clear 1 ls st s = qm_ev d jP_clear [(2, [1], 0), (0, [], 6), (60, [3, 2], 0), (4, [0], 0), (42, [3, 7, 17, 1, 0], 0), (2, [1], 0), (0, [], 0), (51, [], 0), (8, [1], 1), (63, [1], 0)] ls st s := rfl
theorem b_P_clear_2 (d : Nat) (ls st : List qm_AV) (s : qm_Hp) : qm_evB d jP_clear 2 ls st s = qm_ev d jP_clear [(4, [0], 0), (0, [], -1), (44, [3, 9], 0), (72, [], 0)] ls st s := rfl
theorem e_P_add (d : Nat) (s : qm_Hp) (a0 : Nat) (a1 : Int32) (a2 : Int32) (a3 : Int32) (a4 : Int32) : qm_evM d jP_add [qP 3 a0, qI a1, qI a2, qI a3, qI a4] s = qm_evB d jP_add 0 [qP 3 a0, qI a1, qI a2, qI a3, qI a4, qU, qU] [] s := rfl
theorem b_P_add_0 (d : Nat) (ls st : List qm_AV) (s : qm_Hp) : qm_evB d jP_add 0 ls st s = qm_ev d jP_add [(2, [1], 0), (0, [], 0), (4, [0], 0), (40, [3, 0], 0), (0, [], 1), (11, [], 0), (80, [53, 3], 0), (61, [0, 1], 0), (4, [0], 0), (42, [3, 7, 17, 1, 0], 0), (2, [1], 0), (50, [], 0), (0, [], 8), (60, [2, 2], 0), (64, [1], 0)] ls st s := rfl
theorem b_P_add_1 (d : Nat) (ls st : List qm_AV) (s : qm_Hp) : qm_evB d jP_add 1 ls st s = qm_ev d jP_add [(0, [], -1), (70, [], 0)] ls st s := rfl
theorem b_P_add_2 (d : Nat) (ls st : List qm_AV) (s : qm_Hp) : qm_evB d jP_add 2 ls st s = qm_ev d jP_add [(4, [0], 0), (42, [3, 7, 17, 1, 0], 0), (2, [1], 0), (50, [], 0), (5, [5], 0), (2, [1], 0), (2, [5], 0), (80, [54, 2], 0), (5, [6], 0), (4, [0], 0), (42, [3, 1, 11, 1, 0], 0), (2, [6], 0), (2, [2], 0), (51, [], 0), (4, [0], 0), (42, [3, 2, 12, 1, 0], 0), (2, [6], 0), (2, [3], 0), (51, [], 0), (4, [0], 0), (42, [3, 3, 13, 1, 0], 0), (2, [6], 0), (2, [4], 0), (51, [], 0), (4, [0], 0), (42, [3, 4, 14, 1, 0], 0), (2, [6], 0), (0, [], 1), (51, [], 0), (4, [0], 0), (42, [3, 5, 15, 1, 0], 0), (2, [6], 0), (0, [], -1), (51, [], 0), (4, [0], 0), (42, [3, 6, 16, 1, 0], 0), (2, [6], 0), (0, [], -1), (51, [], 0), (4, [0], 0), (42, [3, 7, 17, 1, 0], 0), (2, [1], 0), (2, [5], 0), (0, [], 1), (10, [], 0), (51, [], 0), (2, [5], 0), (70, [], 0)] ls st s := rfl
theorem e_P_remove (d : Nat) (s : qm_Hp) (a0 : Nat) (a1 : Int32) (a2 : Int32) : qm_evM d jP_remove [qP 3 a0, qI a1, qI a2] s = qm_evB d jP_remove 0 [qP 3 a0, qI a1, qI a2, qU] [] s := rfl
theorem b_P_remove_0 (d : Nat) (ls st : List qm_AV) (s : qm_Hp) : qm_evB d jP_remove 0 ls st s = qm_ev d jP_remove [(4, [0], 0), (2, [1], 0), (2, [2], 0), (80, [186, 3], 0), (61, [1, 1], 0), (72, [], 0)] ls st s := rfl
theorem b_P_remove_1 (d : Nat) (ls st : List qm_AV) (s : qm_Hp) : qm_evB d jP_remove 1 ls st s = qm_ev d jP_remove [(2, [2], 0), (5, [3], 0), (64, [2], 0)] ls st s := rfl
theorem b_P_remove_2 (d : Nat) (ls st : List qm_AV) (s : qm_Hp) : qm_evB d jP_remove 2 ls st s = qm_ev d jP_remove [(2, [3], 0), (0, [], 1), (10, [], 0), (4, [0], 0), (42, [3, 7, 17, 1, 0], 0), (2, [1], 0), (50, [], 0), (60, [3, 3], 0), (4, [0], 0), (2, [1], 0), (2, [3], 0), (80, [54, 2], 0), (80, [190, 2], 0), (8, [3], 1), (63, [2], 0)] ls st s := rfl
theorem b_P_remove_3 (d : Nat) (ls st : List qm_AV) (s : qm_Hp) : qm_evB d jP_remove 3 ls st s = qm_ev d jP_remove [(4, [0], 0), (42, [3, 7, 17, 1, 0], 0), (2, [1], 0), (33, [], 0), (50, [], 0), (0, [], 1), (11, [], 0), (51, [], 0), (72, [], 0)] ls st s := rfl
theorem e_P_bringDown (d : Nat) (s : qm_Hp) (a0 : Nat) (a1 : Int32) : qm_evM d jP_bringDown [qP 3 a0, qI a1] s = qm_evB d jP_bringDown 0 [qP 3 a0, qI a1] [] s := rfl
theorem b_P_bringDown_0 (d : Nat) (ls st : List qm_AV) (s : qm_Hp) : qm_evB d jP_bringDown 0 ls st s = qm_ev d jP_bringDown [(4, [0], 0), (42, [3, 1, 11, 1, 0], 0), (2, [1], 0), (4, [0], 0), (42, [3, 1, 11, 1, 0], 0), (2, [1], 0), (0, [], 1), (10, [], 0), (50, [], 0), (51, [], 0), (4, [0], 0), (42, [3, 2, 12, 1, 0], 0), (2, [1], 0), (4, [0], 0), (42, [3, 2, 12, 1, 0], 0), (2, [1], 0), (0, [], 1), (10, [], 0), (50, [], 0), (51, [], 0), (4, [0], 0), (42, [3, 3, 13, 1, 0], 0), (2, [1], 0), (4, [0], 0), (42, [3, 3, 13, 1, 0], 0), (2, [1], 0), (0, [], 1), (10, [], 0), (50, [], 0), (51, [], 0), (4, [0], 0), (42, [3, 4, 14, 1, 0], 0), (2, [1], 0), (4, [0], 0), (42, [3, 4, 14, 1, 0], 0), (2, [1], 0), (0, [], 1), (10, [], 0), (50, [], 0), (51, [], 0), (4, [0], 0), (42, [3, 5, 15, 1, 0], 0), (2, [1], 0), (4, [0], 0), (42, [3, 5, 15, 1, 0], 0), (2, [1], 0), (0, [], 1), (10, [], 0), (50, [], 0), (51, [], 0), (4, [0], 0), (42, [3, 6, 16, 1, 0], 0), (2, [1], 0), (4, [0], 0), (42, [3, 6, 16, 1, 0], 0), (2, [1], 0), (0, [], 1), (10, [], 0), (50, [], 0), (51, [], 0), (72, [], 0)] ls st s := rfl
theorem e_P_turnBark (d : Nat) (s : qm_Hp) (a0 : Nat) (a1 : Int32) : qm_evM d jP_turnBark [qP 3 a0, qI a1] s = qm_evB d jP_turnBark 0 [qP 3 a0, qI a1, qU] [] s := rfl
theorem b_P_turnBark_0 (d : Nat) (ls st : List qm_AV) (s : qm_Hp) : qm_evB d jP_turnBark 0 ls st s = qm_ev d jP_turnBark [(0, [], 0), (5, [2], 0), (64, [1], 0)] ls st s := rfl
theorem b_P_turnBark_1 (d : Nat) (ls st : List qm_AV) (s : qm_Hp) : qm_evB d jP_turnBark 1 ls st s = qm_ev d jP_turnBark [(2, [2], 0), (0, [], 48), (60, [3, 2], 0), (4, [0], 0), (42, [3, 4, 14, 1, 0], 0), (2, [2], 0), (2, [1], 0), (51, [], 0), (8, [2], 1), (63, [1], 0)] ls st s := rfl
theorem b_P_turnBark_2 (d : Nat) (ls st : List qm_AV) (s : qm_Hp) : qm_evB d jP_turnBark 2 ls st s = qm_ev d jP_turnBark [(72, [], 0)] ls st s := rfl
theorem e_P_splits (d : Nat) (s : qm_Hp) (a0 : Nat) : qm_evM d jP_splits [qP 3 a0] s = qm_evB d jP_splits 0 [qP 3 a0, qU, qU] [] s := rfl
theorem b_P_splits_0 (d : Nat) (ls st : List qm_AV) (s : qm_Hp) : qm_evB d jP_splits 0 ls st s = qm_ev d jP_splits [(0, [], 0), (5, [1], 0), (0, [], 0), (5, [2], 0), (64, [1], 0)] ls st s := rfl
theorem b_P_splits_1 (d : Nat) (ls st : List qm_AV) (s : qm_Hp) : qm_evB d jP_splits 1 ls st s = qm_ev d jP_splits [(2, [2], 0), (4, [0], 0), (40, [3, 0], 0), (60, [3, 2], 0), (2, [1], 0), (4, [0], 0), (42, [3, 7, 17, 1, 0], 0), (2, [2], 0), (50, [], 0), (10, [], 0), (5, [1], 0), (8, [2], 1), (63, [1], 0)] ls st s := rfl
theorem b_P_splits_2 (d : Nat) (ls st : List qm_AV) (s : qm_Hp) : qm_evB d jP_splits 2 ls st s = qm_ev d jP_splits [(2, [1], 0), (70, [], 0)] ls st s := rfl
theorem e_P_drySplits (d : Nat) (s : qm_Hp) (a0 : Nat) : qm_evM d jP_drySplits [qP 3 a0] s = qm_evB d jP_drySplits 0 [qP 3 a0, qU, qU, qU] [] s := rfl
theorem b_P_drySplits_0 (d : Nat) (ls st : List qm_AV) (s : qm_Hp) : qm_evB d jP_drySplits 0 ls st s = qm_ev d jP_drySplits [(0, [], 0), (5, [1], 0), (0, [], 0), (5, [2], 0), (64, [1], 0)] ls st s := rfl
theorem b_P_drySplits_1 (d : Nat) (ls st : List qm_AV) (s : qm_Hp) : qm_evB d jP_drySplits 1 ls st s = qm_ev d jP_drySplits [(2, [2], 0), (4, [0], 0), (40, [3, 0], 0), (60, [3, 6], 0), (0, [], 0), (5, [3], 0), (64, [2], 0)] ls st s := rfl
theorem b_P_drySplits_2 (d : Nat) (ls st : List qm_AV) (s : qm_Hp) : qm_evB d jP_drySplits 2 ls st s = qm_ev d jP_drySplits [(2, [3], 0), (4, [0], 0), (42, [3, 7, 17, 1, 0], 0), (2, [2], 0), (50, [], 0), (60, [3, 5], 0), (2, [1], 0), (4, [0], 0), (42, [3, 3, 13, 1, 0], 0), (2, [2], 0), (2, [3], 0), (80, [54, 2], 0), (50, [], 0), (80, [52, 1], 0), (61, [0, 3], 0), (0, [], 1), (63, [4], 0)] ls st s := rfl
theorem b_P_drySplits_3 (d : Nat) (ls st : List qm_AV) (s : qm_Hp) : qm_evB d jP_drySplits 3 ls st s = qm_ev d jP_drySplits [(0, [], 0), (64, [4], 0)] ls st s := rfl
theorem b_P_drySplits_4 (d : Nat) (ls st : List qm_AV) (s : qm_Hp) : qm_evB d jP_drySplits 4 ls st s = qm_ev d jP_drySplits [(10, [], 0), (5, [1], 0), (8, [3], 1), (63, [2], 0)] ls st s := rfl
theorem b_P_drySplits_5 (d : Nat) (ls st : List qm_AV) (s : qm_Hp) : qm_evB d jP_drySplits 5 ls st s = qm_ev d jP_drySplits [(8, [2], 1), (63, [1], 0)] ls st s := rfl
theorem b_P_drySplits_6 (d : Nat) (ls st : List qm_AV) (s : qm_Hp) : qm_evB d jP_drySplits 6 ls st s = qm_ev d jP_drySplits [(2, [1], 0), (70, [], 0)] ls st s := rfl
theorem e_P_tallest (d : Nat) (s : qm_Hp) (a0 : Nat) : qm_evM d jP_tallest [qP 3 a0] s = qm_evB d jP_tallest 0 [qP 3 a0, qU, qU] [] s := rfl
theorem b_P_tallest_0 (d : Nat) (ls st : List qm_AV) (s : qm_Hp) : qm_evB d jP_tallest 0 ls st s = qm_ev d jP_tallest [(0, [], 0), (5, [1], 0), (0, [], 0), (5, [2], 0), (64, [1], 0)] ls st s := rfl
theorem b_P_tallest_1 (d : Nat) (ls st : List qm_AV) (s : qm_Hp) : qm_evB d jP_tallest 1 ls st s = qm_ev d jP_tallest [(2, [2], 0), (4, [0], 0), (40, [3, 0], 0), (60, [3, 2], 0), (2, [1], 0), (4, [0], 0), (42, [3, 7, 17, 1, 0], 0), (2, [2], 0), (50, [], 0), (81, [], 0), (5, [1], 0), (8, [2], 1), (63, [1], 0)] ls st s := rfl
theorem b_P_tallest_2 (d : Nat) (ls st : List qm_AV) (s : qm_Hp) : qm_evB d jP_tallest 2 ls st s = qm_ev d jP_tallest [(2, [1], 0), (70, [], 0)] ls st s := rfl
theorem e_P_isTop (d : Nat) (s : qm_Hp) (a0 : Nat) (a1 : Int32) (a2 : Int32) : qm_evM d jP_isTop [qP 3 a0, qI a1, qI a2] s = qm_evB d jP_isTop 0 [qP 3 a0, qI a1, qI a2] [] s := rfl
theorem b_P_isTop_0 (d : Nat) (ls st : List qm_AV) (s : qm_Hp) : qm_evB d jP_isTop 0 ls st s = qm_ev d jP_isTop [(4, [0], 0), (80, [185, 1], 0), (61, [1, 1], 0), (2, [2], 0), (0, [], 1), (10, [], 0), (4, [0], 0), (42, [3, 7, 17, 1, 0], 0), (2, [1], 0), (50, [], 0), (60, [2, 2], 0), (64, [1], 0)] ls st s := rfl
theorem b_P_isTop_1 (d : Nat) (ls st : List qm_AV) (s : qm_Hp) : qm_evB d jP_isTop 1 ls st s = qm_ev d jP_isTop [(0, [], 1), (63, [3], 0)] ls st s := rfl
theorem b_P_isTop_2 (d : Nat) (ls st : List qm_AV) (s : qm_Hp) : qm_evB d jP_isTop 2 ls st s = qm_ev d jP_isTop [(0, [], 0), (64, [3], 0)] ls st s := rfl
theorem b_P_isTop_3 (d : Nat) (ls st : List qm_AV) (s : qm_Hp) : qm_evB d jP_isTop 3 ls st s = qm_ev d jP_isTop [(70, [], 0)] ls st s := rfl
theorem e_P_besideOf (d : Nat) (s : qm_Hp) (a0 : Nat) (a1 : Int32) (a2 : Int32) : qm_evM d jP_besideOf [qP 3 a0, qI a1, qI a2] s = qm_evB d jP_besideOf 0 [qP 3 a0, qI a1, qI a2, qU] [] s := rfl
theorem b_P_besideOf_0 (d : Nat) (ls st : List qm_AV) (s : qm_Hp) : qm_evB d jP_besideOf 0 ls st s = qm_ev d jP_besideOf [(4, [0], 0), (80, [185, 1], 0), (61, [0, 1], 0), (0, [], 4), (70, [], 0)] ls st s := rfl
theorem b_P_besideOf_1 (d : Nat) (ls st : List qm_AV) (s : qm_Hp) : qm_evB d jP_besideOf 1 ls st s = qm_ev d jP_besideOf [(2, [2], 0), (61, [5, 2], 0), (0, [], 1), (63, [3], 0)] ls st s := rfl
theorem b_P_besideOf_2 (d : Nat) (ls st : List qm_AV) (s : qm_Hp) : qm_evB d jP_besideOf 2 ls st s = qm_ev d jP_besideOf [(0, [], 0), (64, [3], 0)] ls st s := rfl
theorem b_P_besideOf_3 (d : Nat) (ls st : List qm_AV) (s : qm_Hp) : qm_evB d jP_besideOf 3 ls st s = qm_ev d jP_besideOf [(5, [3], 0), (2, [3], 0), (2, [2], 0), (0, [], 1), (10, [], 0), (4, [0], 0), (42, [3, 7, 17, 1, 0], 0), (2, [1], 0), (50, [], 0), (60, [3, 4], 0), (0, [], 1), (63, [5], 0)] ls st s := rfl
theorem b_P_besideOf_4 (d : Nat) (ls st : List qm_AV) (s : qm_Hp) : qm_evB d jP_besideOf 4 ls st s = qm_ev d jP_besideOf [(0, [], 0), (64, [5], 0)] ls st s := rfl
theorem b_P_besideOf_5 (d : Nat) (ls st : List qm_AV) (s : qm_Hp) : qm_evB d jP_besideOf 5 ls st s = qm_ev d jP_besideOf [(10, [], 0), (5, [3], 0), (2, [3], 0), (2, [1], 0), (61, [5, 6], 0), (2, [2], 0), (4, [0], 0), (42, [3, 7, 17, 1, 0], 0), (2, [1], 0), (0, [], 1), (11, [], 0), (50, [], 0), (60, [3, 6], 0), (0, [], 1), (63, [7], 0)] ls st s := rfl
theorem b_P_besideOf_6 (d : Nat) (ls st : List qm_AV) (s : qm_Hp) : qm_evB d jP_besideOf 6 ls st s = qm_ev d jP_besideOf [(0, [], 0), (64, [7], 0)] ls st s := rfl
theorem b_P_besideOf_7 (d : Nat) (ls st : List qm_AV) (s : qm_Hp) : qm_evB d jP_besideOf 7 ls st s = qm_ev d jP_besideOf [(10, [], 0), (5, [3], 0), (2, [3], 0), (2, [1], 0), (0, [], 1), (10, [], 0), (4, [0], 0), (40, [3, 0], 0), (60, [3, 8], 0), (2, [2], 0), (4, [0], 0), (42, [3, 7, 17, 1, 0], 0), (2, [1], 0), (0, [], 1), (10, [], 0), (50, [], 0), (60, [3, 8], 0), (0, [], 1), (63, [9], 0)] ls st s := rfl
theorem b_P_besideOf_8 (d : Nat) (ls st : List qm_AV) (s : qm_Hp) : qm_evB d jP_besideOf 8 ls st s = qm_ev d jP_besideOf [(0, [], 0), (64, [9], 0)] ls st s := rfl
theorem b_P_besideOf_9 (d : Nat) (ls st : List qm_AV) (s : qm_Hp) : qm_evB d jP_besideOf 9 ls st s = qm_ev d jP_besideOf [(10, [], 0), (5, [3], 0), (2, [3], 0), (70, [], 0)] ls st s := rfl
theorem e_P_isSunny (d : Nat) (s : qm_Hp) (a0 : Nat) (a1 : Int32) : qm_evM d jP_isSunny [qP 3 a0, qI a1] s = qm_evB d jP_isSunny 0 [qP 3 a0, qI a1] [] s := rfl
theorem b_P_isSunny_0 (d : Nat) (ls st : List qm_AV) (s : qm_Hp) : qm_evB d jP_isSunny 0 ls st s = qm_ev d jP_isSunny [(2, [1], 0), (4, [0], 0), (40, [3, 12], 0), (61, [1, 1], 0), (0, [], 0), (63, [2], 0)] ls st s := rfl
theorem b_P_isSunny_1 (d : Nat) (ls st : List qm_AV) (s : qm_Hp) : qm_evB d jP_isSunny 1 ls st s = qm_ev d jP_isSunny [(4, [0], 0), (40, [3, 0], 0), (0, [], 1), (11, [], 0), (64, [2], 0)] ls st s := rfl
theorem b_P_isSunny_2 (d : Nat) (ls st : List qm_AV) (s : qm_Hp) : qm_evB d jP_isSunny 2 ls st s = qm_ev d jP_isSunny [(60, [1, 3], 0), (0, [], 1), (63, [4], 0)] ls st s := rfl
theorem b_P_isSunny_3 (d : Nat) (ls st : List qm_AV) (s : qm_Hp) : qm_evB d jP_isSunny 3 ls st s = qm_ev d jP_isSunny [(0, [], 0), (64, [4], 0)] ls st s := rfl
theorem b_P_isSunny_4 (d : Nat) (ls st : List qm_AV) (s : qm_Hp) : qm_evB d jP_isSunny 4 ls st s = qm_ev d jP_isSunny [(70, [], 0)] ls st s := rfl
theorem e_C_lay (d : Nat) (s : qm_Hp) (a0 : Nat) (a1 : Int32) (a2 : Int32) (a3 : Int32) (a4 : Int32) : qm_evM d jC_lay [qP 1 a0, qI a1, qI a2, qI a3, qI a4] s = qm_evB d jC_lay 0 [qP 1 a0, qI a1, qI a2, qI a3, qI a4] [] s := rfl
theorem b_C_lay_0 (d : Nat) (ls st : List qm_AV) (s : qm_Hp) : qm_evB d jC_lay 0 ls st s = qm_ev d jC_lay [(2, [2], 0), (80, [49, 1], 0), (61, [0, 1], 0), (2, [3], 0), (0, [], 1), (0, [], 20), (80, [53, 3], 0), (61, [0, 1], 0), (2, [4], 0), (80, [50, 1], 0), (61, [0, 1], 0), (4, [0], 0), (42, [1, 0, 2, 0, 0], 0), (42, [2, 0, 3, 1, 0], 0), (80, [185, 1], 0), (61, [0, 2], 0), (64, [1], 0)] ls st s := rfl
theorem b_C_lay_1 (d : Nat) (ls st : List qm_AV) (s : qm_Hp) : qm_evB d jC_lay 1 ls st s = qm_ev d jC_lay [(0, [], -1), (70, [], 0)] ls st s := rfl
theorem b_C_lay_2 (d : Nat) (ls st : List qm_AV) (s : qm_Hp) : qm_evB d jC_lay 2 ls st s = qm_ev d jC_lay [(4, [0], 0), (42, [1, 0, 2, 0, 0], 0), (42, [2, 0, 3, 1, 0], 0), (2, [1], 0), (2, [2], 0), (2, [3], 0), (2, [4], 0), (80, [188, 5], 0), (70, [], 0)] ls st s := rfl
theorem e_C_bark (d : Nat) (s : qm_Hp) (a0 : Nat) (a1 : Int32) (a2 : Int32) (a3 : Int32) : qm_evM d jC_bark [qP 1 a0, qI a1, qI a2, qI a3] s = qm_evB d jC_bark 0 [qP 1 a0, qI a1, qI a2, qI a3] [] s := rfl
theorem b_C_bark_0 (d : Nat) (ls st : List qm_AV) (s : qm_Hp) : qm_evB d jC_bark 0 ls st s = qm_ev d jC_bark [(4, [0], 0), (42, [1, 0, 2, 0, 0], 0), (42, [2, 0, 3, 1, 0], 0), (2, [1], 0), (2, [2], 0), (80, [186, 3], 0), (61, [1, 1], 0), (0, [], 0), (70, [], 0)] ls st s := rfl
theorem b_C_bark_1 (d : Nat) (ls st : List qm_AV) (s : qm_Hp) : qm_evB d jC_bark 1 ls st s = qm_ev d jC_bark [(4, [0], 0), (42, [1, 0, 2, 0, 0], 0), (42, [2, 0, 3, 1, 0], 0), (42, [3, 4, 14, 1, 0], 0), (2, [1], 0), (2, [2], 0), (80, [54, 2], 0), (2, [3], 0), (61, [0, 2], 0), (0, [], 1), (63, [3], 0)] ls st s := rfl
theorem b_C_bark_2 (d : Nat) (ls st : List qm_AV) (s : qm_Hp) : qm_evB d jC_bark 2 ls st s = qm_ev d jC_bark [(0, [], 0), (64, [3], 0)] ls st s := rfl
theorem b_C_bark_3 (d : Nat) (ls st : List qm_AV) (s : qm_Hp) : qm_evB d jC_bark 3 ls st s = qm_ev d jC_bark [(51, [], 0), (0, [], 1), (70, [], 0)] ls st s := rfl
theorem e_C_measure (d : Nat) (s : qm_Hp) (a0 : Nat) (a1 : Int32) (a2 : Int32) (a3 : Int32) (a4 : Int32) : qm_evM d jC_measure [qP 1 a0, qI a1, qI a2, qI a3, qI a4] s = qm_evB d jC_measure 0 [qP 1 a0, qI a1, qI a2, qI a3, qI a4, qU] [] s := rfl
theorem b_C_measure_0 (d : Nat) (ls st : List qm_AV) (s : qm_Hp) : qm_evB d jC_measure 0 ls st s = qm_ev d jC_measure [(4, [0], 0), (42, [1, 0, 2, 0, 0], 0), (42, [2, 0, 3, 1, 0], 0), (2, [1], 0), (2, [2], 0), (80, [186, 3], 0), (61, [0, 1], 0), (2, [3], 0), (0, [], -1), (60, [0, 2], 0), (2, [3], 0), (2, [4], 0), (80, [51, 2], 0), (61, [1, 2], 0), (64, [1], 0)] ls st s := rfl
theorem b_C_measure_1 (d : Nat) (ls st : List qm_AV) (s : qm_Hp) : qm_evB d jC_measure 1 ls st s = qm_ev d jC_measure [(0, [], 0), (70, [], 0)] ls st s := rfl
theorem b_C_measure_2 (d : Nat) (ls st : List qm_AV) (s : qm_Hp) : qm_evB d jC_measure 2 ls st s = qm_ev d jC_measure [(2, [1], 0), (2, [2], 0), (80, [54, 2], 0), (5, [5], 0), (4, [0], 0), (42, [1, 0, 2, 0, 0], 0), (42, [2, 0, 3, 1, 0], 0), (42, [3, 5, 15, 1, 0], 0), (2, [5], 0), (2, [3], 0), (51, [], 0), (4, [0], 0), (42, [1, 0, 2, 0, 0], 0), (42, [2, 0, 3, 1, 0], 0), (42, [3, 6, 16, 1, 0], 0), (2, [5], 0), (2, [3], 0), (0, [], -1), (60, [1, 3], 0), (0, [], -1), (63, [4], 0)] ls st s := rfl
theorem b_C_measure_3 (d : Nat) (ls st : List qm_AV) (s : qm_Hp) : qm_evB d jC_measure 3 ls st s = qm_ev d jC_measure [(2, [4], 0), (64, [4], 0)] ls st s := rfl
theorem b_C_measure_4 (d : Nat) (ls st : List qm_AV) (s : qm_Hp) : qm_evB d jC_measure 4 ls st s = qm_ev d jC_measure [(51, [], 0), (0, [], 1), (70, [], 0)] ls st s := rfl
theorem e_C_span (d : Nat) (s : qm_Hp) (a0 : Nat) (a1 : Int32) (a2 : Int32) (a3 : Int32) : qm_evM d jC_span [qP 1 a0, qI a1, qI a2, qI a3] s = qm_evB d jC_span 0 [qP 1 a0, qI a1, qI a2, qI a3] [] s := rfl
theorem b_C_span_0 (d : Nat) (ls st : List qm_AV) (s : qm_Hp) : qm_evB d jC_span 0 ls st s = qm_ev d jC_span [(2, [1], 0), (80, [49, 1], 0), (61, [0, 1], 0), (2, [2], 0), (2, [3], 0), (80, [51, 2], 0), (61, [1, 2], 0), (64, [1], 0)] ls st s := rfl
theorem b_C_span_1 (d : Nat) (ls st : List qm_AV) (s : qm_Hp) : qm_evB d jC_span 1 ls st s = qm_ev d jC_span [(0, [], 0), (70, [], 0)] ls st s := rfl
theorem b_C_span_2 (d : Nat) (ls st : List qm_AV) (s : qm_Hp) : qm_evB d jC_span 2 ls st s = qm_ev d jC_span [(4, [0], 0), (42, [1, 0, 2, 0, 0], 0), (42, [2, 7, 26, 1, 0], 0), (2, [1], 0), (2, [2], 0), (51, [], 0), (4, [0], 0), (42, [1, 0, 2, 0, 0], 0), (42, [2, 8, 27, 1, 0], 0), (2, [1], 0), (2, [3], 0), (51, [], 0), (0, [], 1), (70, [], 0)] ls st s := rfl
theorem e_C_weather (d : Nat) (s : qm_Hp) (a0 : Nat) (a1 : Int32) (a2 : Int32) (a3 : Int32) (a4 : Int32) : qm_evM d jC_weather [qP 1 a0, qI a1, qI a2, qI a3, qI a4] s = qm_evB d jC_weather 0 [qP 1 a0, qI a1, qI a2, qI a3, qI a4, qU, qU] [] s := rfl
theorem b_C_weather_0 (d : Nat) (ls st : List qm_AV) (s : qm_Hp) : qm_evB d jC_weather 0 ls st s = qm_ev d jC_weather [(2, [1], 0), (0, [], 0), (0, [], 9), (80, [53, 3], 0), (61, [0, 1], 0), (2, [2], 0), (0, [], 0), (0, [], 9), (80, [53, 3], 0), (61, [0, 1], 0), (2, [3], 0), (0, [], 0), (0, [], 9), (80, [53, 3], 0), (61, [0, 1], 0), (2, [4], 0), (0, [], 0), (0, [], 40), (80, [53, 3], 0), (61, [0, 1], 0), (0, [], 1), (63, [2], 0)] ls st s := rfl
theorem b_C_weather_1 (d : Nat) (ls st : List qm_AV) (s : qm_Hp) : qm_evB d jC_weather 1 ls st s = qm_ev d jC_weather [(0, [], 0), (64, [2], 0)] ls st s := rfl
theorem b_C_weather_2 (d : Nat) (ls st : List qm_AV) (s : qm_Hp) : qm_evB d jC_weather 2 ls st s = qm_ev d jC_weather [(5, [5], 0), (2, [5], 0), (61, [0, 3], 0), (4, [0], 0), (42, [1, 0, 2, 0, 0], 0), (40, [2, 5], 0), (0, [], 12), (60, [2, 4], 0), (64, [3], 0)] ls st s := rfl
theorem b_C_weather_3 (d : Nat) (ls st : List qm_AV) (s : qm_Hp) : qm_evB d jC_weather 3 ls st s = qm_ev d jC_weather [(0, [], -1), (70, [], 0)] ls st s := rfl
theorem b_C_weather_4 (d : Nat) (ls st : List qm_AV) (s : qm_Hp) : qm_evB d jC_weather 4 ls st s = qm_ev d jC_weather [(4, [0], 0), (42, [1, 0, 2, 0, 0], 0), (40, [2, 5], 0), (5, [6], 0), (4, [0], 0), (42, [1, 0, 2, 0, 0], 0), (42, [2, 1, 21, 1, 0], 0), (2, [6], 0), (2, [1], 0), (51, [], 0), (4, [0], 0), (42, [1, 0, 2, 0, 0], 0), (42, [2, 2, 22, 1, 0], 0), (2, [6], 0), (2, [2], 0), (51, [], 0), (4, [0], 0), (42, [1, 0, 2, 0, 0], 0), (42, [2, 3, 23, 1, 0], 0), (2, [6], 0), (2, [3], 0), (51, [], 0), (4, [0], 0), (42, [1, 0, 2, 0, 0], 0), (42, [2, 4, 24, 1, 0], 0), (2, [6], 0), (2, [4], 0), (51, [], 0), (4, [0], 0), (42, [1, 0, 2, 0, 0], 0), (2, [6], 0), (0, [], 1), (10, [], 0), (44, [2, 5], 0), (2, [6], 0), (70, [], 0)] ls st s := rfl
theorem e_C_plan (d : Nat) (s : qm_Hp) (a0 : Nat) (a1 : Int32) (a2 : Int32) : qm_evM d jC_plan [qP 1 a0, qI a1, qI a2] s = qm_evB d jC_plan 0 [qP 1 a0, qI a1, qI a2] [] s := rfl
theorem b_C_plan_0 (d : Nat) (ls st : List qm_AV) (s : qm_Hp) : qm_evB d jC_plan 0 ls st s = qm_ev d jC_plan [(2, [1], 0), (0, [], 0), (0, [], 39), (80, [53, 3], 0), (61, [0, 1], 0), (4, [0], 0), (2, [2], 0), (80, [47, 2], 0), (61, [1, 2], 0), (64, [1], 0)] ls st s := rfl
theorem b_C_plan_1 (d : Nat) (ls st : List qm_AV) (s : qm_Hp) : qm_evB d jC_plan 1 ls st s = qm_ev d jC_plan [(0, [], 0), (70, [], 0)] ls st s := rfl
theorem b_C_plan_2 (d : Nat) (ls st : List qm_AV) (s : qm_Hp) : qm_evB d jC_plan 2 ls st s = qm_ev d jC_plan [(4, [0], 0), (42, [1, 0, 2, 0, 0], 0), (42, [2, 6, 25, 1, 0], 0), (2, [1], 0), (2, [2], 0), (51, [], 0), (0, [], 1), (70, [], 0)] ls st s := rfl
theorem e_C_ends (d : Nat) (s : qm_Hp) (a0 : Nat) (a1 : Int32) (a2 : Int32) (a3 : Int32) : qm_evM d jC_ends [qP 1 a0, qI a1, qI a2, qI a3] s = qm_evB d jC_ends 0 [qP 1 a0, qI a1, qI a2, qI a3] [] s := rfl
theorem b_C_ends_0 (d : Nat) (ls st : List qm_AV) (s : qm_Hp) : qm_evB d jC_ends 0 ls st s = qm_ev d jC_ends [(2, [1], 0), (0, [], 0), (0, [], 9), (80, [53, 3], 0), (61, [0, 1], 0), (2, [3], 0), (0, [], 0), (0, [], 1), (80, [53, 3], 0), (61, [1, 2], 0), (64, [1], 0)] ls st s := rfl
theorem b_C_ends_1 (d : Nat) (ls st : List qm_AV) (s : qm_Hp) : qm_evB d jC_ends 1 ls st s = qm_ev d jC_ends [(0, [], 0), (70, [], 0)] ls st s := rfl
theorem b_C_ends_2 (d : Nat) (ls st : List qm_AV) (s : qm_Hp) : qm_evB d jC_ends 2 ls st s = qm_ev d jC_ends [(4, [0], 0), (42, [1, 0, 2, 0, 0], 0), (42, [2, 0, 3, 1, 0], 0), (2, [1], 0), (44, [3, 10], 0), (4, [0], 0), (42, [1, 0, 2, 0, 0], 0), (42, [2, 0, 3, 1, 0], 0), (2, [2], 0), (61, [0, 3], 0), (0, [], 1), (63, [4], 0)] ls st s := rfl
theorem b_C_ends_3 (d : Nat) (ls st : List qm_AV) (s : qm_Hp) : qm_evB d jC_ends 3 ls st s = qm_ev d jC_ends [(0, [], 0), (64, [4], 0)] ls st s := rfl
theorem b_C_ends_4 (d : Nat) (ls st : List qm_AV) (s : qm_Hp) : qm_evB d jC_ends 4 ls st s = qm_ev d jC_ends [(44, [3, 11], 0), (4, [0], 0), (42, [1, 0, 2, 0, 0], 0), (42, [2, 0, 3, 1, 0], 0), (2, [3], 0), (44, [3, 12], 0), (0, [], 1), (70, [], 0)] ls st s := rfl
theorem e_C_feed (d : Nat) (s : qm_Hp) (a0 : Nat) (a1 : Int32) (a2 : Int32) (a3 : Int32) (a4 : Int32) (a5 : Int32) : qm_evM d jC_feed [qP 1 a0, qI a1, qI a2, qI a3, qI a4, qI a5] s = qm_evB d jC_feed 0 [qP 1 a0, qI a1, qI a2, qI a3, qI a4, qI a5] [] s := rfl
theorem b_C_feed_0 (d : Nat) (ls st : List qm_AV) (s : qm_Hp) : qm_evB d jC_feed 0 ls st s = qm_ev d jC_feed [(4, [0], 0), (40, [1, 7], 0), (0, [], 280), (60, [5, 1], 0), (0, [], -1), (70, [], 0)] ls st s := rfl
theorem b_C_feed_1 (d : Nat) (ls st : List qm_AV) (s : qm_Hp) : qm_evB d jC_feed 1 ls st s = qm_ev d jC_feed [(4, [0], 0), (2, [1], 0), (80, [9, 2], 0), (4, [0], 0), (2, [2], 0), (80, [9, 2], 0), (4, [0], 0), (2, [3], 0), (80, [9, 2], 0), (4, [0], 0), (2, [4], 0), (80, [9, 2], 0), (4, [0], 0), (2, [5], 0), (80, [9, 2], 0), (4, [0], 0), (40, [1, 7], 0), (70, [], 0)] ls st s := rfl
theorem e_C_feedFour (d : Nat) (s : qm_Hp) (a0 : Nat) (a1 : Int32) : qm_evM d jC_feedFour [qP 1 a0, qI a1] s = qm_evB d jC_feedFour 0 [qP 1 a0, qI a1, qU] [] s := rfl
theorem b_C_feedFour_0 (d : Nat) (ls st : List qm_AV) (s : qm_Hp) : qm_evB d jC_feedFour 0 ls st s = qm_ev d jC_feedFour [(0, [], 24), (5, [2], 0), (64, [1], 0)] ls st s := rfl
theorem b_C_feedFour_1 (d : Nat) (ls st : List qm_AV) (s : qm_Hp) : qm_evB d jC_feedFour 1 ls st s = qm_ev d jC_feedFour [(2, [2], 0), (61, [2, 2], 0), (4, [0], 0), (40, [1, 7], 0), (0, [], 300), (60, [3, 2], 0), (4, [0], 0), (42, [1, 6, 52, 0, 0], 0), (4, [0], 0), (40, [1, 7], 0), (2, [1], 0), (2, [2], 0), (20, [], 0), (0, [], 255), (16, [], 0), (51, [], 0), (4, [0], 0), (32, [], 0), (40, [1, 7], 0), (0, [], 1), (10, [], 0), (44, [1, 7], 0), (8, [2], -8), (63, [1], 0)] ls st s := rfl
theorem b_C_feedFour_2 (d : Nat) (ls st : List qm_AV) (s : qm_Hp) : qm_evB d jC_feedFour 2 ls st s = qm_ev d jC_feedFour [(72, [], 0)] ls st s := rfl
theorem e_C_end (d : Nat) (s : qm_Hp) (a0 : Nat) (a1 : Int32) : qm_evM d jC_end [qP 1 a0, qI a1] s = qm_evB d jC_end 0 [qP 1 a0, qI a1] [] s := rfl
theorem b_C_end_0 (d : Nat) (ls st : List qm_AV) (s : qm_Hp) : qm_evB d jC_end 0 ls st s = qm_ev d jC_end [(2, [1], 0), (0, [], 0), (4, [0], 0), (40, [1, 7], 0), (80, [53, 3], 0), (61, [1, 1], 0), (0, [], -1), (70, [], 0)] ls st s := rfl
theorem b_C_end_1 (d : Nat) (ls st : List qm_AV) (s : qm_Hp) : qm_evB d jC_end 1 ls st s = qm_ev d jC_end [(4, [0], 0), (2, [1], 0), (44, [1, 7], 0), (2, [1], 0), (70, [], 0)] ls st s := rfl
theorem e_C_text (d : Nat) (s : qm_Hp) (a0 : Nat) : qm_evM d jC_text [qP 1 a0] s = qm_evB d jC_text 0 [qP 1 a0, qU] [] s := rfl
theorem b_C_text_0 (d : Nat) (ls st : List qm_AV) (s : qm_Hp) : qm_evB d jC_text 0 ls st s = qm_ev d jC_text [(4, [0], 0), (42, [1, 0, 2, 0, 0], 0), (40, [2, 11], 0), (5, [1], 0), (2, [1], 0), (0, [], 0), (0, [], 3), (80, [53, 3], 0), (61, [1, 1], 0), (0, [], -1), (70, [], 0)] ls st s := rfl
theorem b_C_text_1 (d : Nat) (ls st : List qm_AV) (s : qm_Hp) : qm_evB d jC_text 1 ls st s = qm_ev d jC_text [(4, [0], 0), (42, [1, 5, 6, 0, 0], 0), (4, [0], 0), (42, [1, 6, 52, 0, 0], 0), (4, [0], 0), (40, [1, 7], 0), (4, [0], 0), (42, [1, 2, 51, 0, 0], 0), (2, [1], 0), (56, [], 0), (80, [199, 4], 0), (4, [0], 0), (0, [], 1), (47, [1, 8], 0), (4, [0], 0), (0, [], 0), (44, [1, 7], 0), (4, [0], 0), (42, [1, 5, 6, 0, 0], 0), (40, [6, 4], 0), (61, [0, 2], 0), (0, [], -1), (70, [], 0)] ls st s := rfl
theorem b_C_text_2 (d : Nat) (ls st : List qm_AV) (s : qm_Hp) : qm_evB d jC_text 2 ls st s = qm_ev d jC_text [(4, [0], 0), (42, [1, 0, 2, 0, 0], 0), (2, [1], 0), (0, [], 1), (10, [], 0), (44, [2, 11], 0), (2, [1], 0), (70, [], 0)] ls st s := rfl
theorem e_C_fault (d : Nat) (s : qm_Hp) (a0 : Nat) (a1 : Int32) : qm_evM d jC_fault [qP 1 a0, qI a1] s = qm_evB d jC_fault 0 [qP 1 a0, qI a1] [] s := rfl
theorem b_C_fault_0 (d : Nat) (ls st : List qm_AV) (s : qm_Hp) : qm_evB d jC_fault 0 ls st s = qm_ev d jC_fault [(4, [0], 0), (40, [1, 8], 0), (61, [0, 1], 0), (2, [1], 0), (0, [], 0), (0, [], 1), (80, [53, 3], 0), (61, [1, 2], 0), (64, [1], 0)] ls st s := rfl
theorem b_C_fault_1 (d : Nat) (ls st : List qm_AV) (s : qm_Hp) : qm_evB d jC_fault 1 ls st s = qm_ev d jC_fault [(0, [], -1), (70, [], 0)] ls st s := rfl
theorem b_C_fault_2 (d : Nat) (ls st : List qm_AV) (s : qm_Hp) : qm_evB d jC_fault 2 ls st s = qm_ev d jC_fault [(2, [1], 0), (61, [1, 3], 0), (4, [0], 0), (42, [1, 5, 6, 0, 0], 0), (40, [6, 4], 0), (63, [4], 0)] ls st s := rfl
theorem b_C_fault_3 (d : Nat) (ls st : List qm_AV) (s : qm_Hp) : qm_evB d jC_fault 3 ls st s = qm_ev d jC_fault [(4, [0], 0), (42, [1, 5, 6, 0, 0], 0), (40, [6, 5], 0), (64, [4], 0)] ls st s := rfl
theorem b_C_fault_4 (d : Nat) (ls st : List qm_AV) (s : qm_Hp) : qm_evB d jC_fault 4 ls st s = qm_ev d jC_fault [(70, [], 0)] ls st s := rfl
theorem e_C_by (d : Nat) (s : qm_Hp) (a0 : Nat) (a1 : Int32) : qm_evM d jC_by [qP 1 a0, qI a1] s = qm_evB d jC_by 0 [qP 1 a0, qI a1] [] s := rfl
theorem b_C_by_0 (d : Nat) (ls st : List qm_AV) (s : qm_Hp) : qm_evB d jC_by 0 ls st s = qm_ev d jC_by [(2, [1], 0), (0, [], -1), (60, [0, 1], 0), (4, [0], 0), (2, [1], 0), (80, [48, 2], 0), (61, [1, 1], 0), (0, [], 0), (70, [], 0)] ls st s := rfl
theorem b_C_by_1 (d : Nat) (ls st : List qm_AV) (s : qm_Hp) : qm_evB d jC_by 1 ls st s = qm_ev d jC_by [(4, [0], 0), (42, [1, 0, 2, 0, 0], 0), (2, [1], 0), (44, [2, 12], 0), (4, [0], 0), (80, [14, 1], 0), (0, [], 1), (70, [], 0)] ls st s := rfl
theorem e_C_obey (d : Nat) (s : qm_Hp) (a0 : Nat) : qm_evM d jC_obey [qP 1 a0] s = qm_evB d jC_obey 0 [qP 1 a0] [] s := rfl
theorem b_C_obey_0 (d : Nat) (ls st : List qm_AV) (s : qm_Hp) : qm_evB d jC_obey 0 ls st s = qm_ev d jC_obey [(4, [0], 0), (42, [1, 4, 5, 0, 0], 0), (4, [0], 0), (4, [0], 0), (42, [1, 0, 2, 0, 0], 0), (40, [2, 12], 0), (80, [48, 2], 0), (61, [0, 1], 0), (4, [0], 0), (42, [1, 2, 51, 0, 0], 0), (4, [0], 0), (42, [1, 0, 2, 0, 0], 0), (40, [2, 12], 0), (56, [], 0), (63, [2], 0)] ls st s := rfl
theorem b_C_obey_1 (d : Nat) (ls st : List qm_AV) (s : qm_Hp) : qm_evB d jC_obey 1 ls st s = qm_ev d jC_obey [(4, [0], 0), (42, [1, 3, 4, 0, 4], 0), (64, [2], 0)] ls st s := rfl
theorem b_C_obey_2 (d : Nat) (ls st : List qm_AV) (s : qm_Hp) : qm_evB d jC_obey 2 ls st s = qm_ev d jC_obey [(46, [5, 0, 4], 0), (72, [], 0)] ls st s := rfl
theorem e_C_laid (d : Nat) (s : qm_Hp) (a0 : Nat) (a1 : Int32) : qm_evM d jC_laid [qP 1 a0, qI a1] s = qm_evB d jC_laid 0 [qP 1 a0, qI a1, qU, qU] [] s := rfl
theorem b_C_laid_0 (d : Nat) (ls st : List qm_AV) (s : qm_Hp) : qm_evB d jC_laid 0 ls st s = qm_ev d jC_laid [(4, [0], 0), (2, [1], 0), (80, [48, 2], 0), (61, [1, 1], 0), (0, [], -2), (70, [], 0)] ls st s := rfl
theorem b_C_laid_1 (d : Nat) (ls st : List qm_AV) (s : qm_Hp) : qm_evB d jC_laid 1 ls st s = qm_ev d jC_laid [(4, [0], 0), (42, [1, 2, 51, 0, 0], 0), (2, [1], 0), (56, [], 0), (7, [2], 0), (4, [0], 0), (42, [1, 0, 2, 0, 0], 0), (42, [2, 0, 3, 1, 0], 0), (80, [187, 1], 0), (0, [], 0), (5, [3], 0), (64, [2], 0)] ls st s := rfl
theorem b_C_laid_2 (d : Nat) (ls st : List qm_AV) (s : qm_Hp) : qm_evB d jC_laid 2 ls st s = qm_ev d jC_laid [(2, [3], 0), (4, [2], 0), (40, [4, 6], 0), (60, [3, 4], 0), (4, [2], 0), (42, [4, 1, 32, 1, 0], 0), (2, [3], 0), (50, [], 0), (0, [], 23), (60, [1, 3], 0), (4, [0], 0), (4, [2], 0), (2, [3], 0), (80, [16, 3], 0), (61, [1, 3], 0), (2, [3], 0), (70, [], 0)] ls st s := rfl
theorem b_C_laid_3 (d : Nat) (ls st : List qm_AV) (s : qm_Hp) : qm_evB d jC_laid 3 ls st s = qm_ev d jC_laid [(8, [3], 1), (63, [2], 0)] ls st s := rfl
theorem b_C_laid_4 (d : Nat) (ls st : List qm_AV) (s : qm_Hp) : qm_evB d jC_laid 4 ls st s = qm_ev d jC_laid [(0, [], -1), (70, [], 0)] ls st s := rfl
theorem e_C_layClause (d : Nat) (s : qm_Hp) (a0 : Nat) (a1 : Nat) (a2 : Int32) : qm_evM d jC_layClause [qP 1 a0, qP 4 a1, qI a2] s = qm_evB d jC_layClause 0 [qP 1 a0, qP 4 a1, qI a2, qU, qU, qU] [] s := rfl
theorem b_C_layClause_0 (d : Nat) (ls st : List qm_AV) (s : qm_Hp) : qm_evB d jC_layClause 0 ls st s = qm_ev d jC_layClause [(4, [1], 0), (2, [2], 0), (0, [], 0), (80, [226, 3], 0), (5, [3], 0), (4, [1], 0), (2, [2], 0), (0, [], 1), (80, [226, 3], 0), (5, [4], 0), (4, [1], 0), (2, [2], 0), (0, [], 2), (80, [226, 3], 0), (5, [5], 0), (4, [0], 0), (42, [1, 0, 2, 0, 0], 0), (42, [2, 0, 3, 1, 0], 0), (4, [1], 0), (2, [2], 0), (0, [], 3), (80, [226, 3], 0), (2, [3], 0), (2, [4], 0), (2, [5], 0), (80, [188, 5], 0), (0, [], -1), (60, [0, 1], 0), (0, [], 1), (63, [2], 0)] ls st s := rfl
theorem b_C_layClause_1 (d : Nat) (ls st : List qm_AV) (s : qm_Hp) : qm_evB d jC_layClause 1 ls st s = qm_ev d jC_layClause [(0, [], 0), (64, [2], 0)] ls st s := rfl
theorem b_C_layClause_2 (d : Nat) (ls st : List qm_AV) (s : qm_Hp) : qm_evB d jC_layClause 2 ls st s = qm_ev d jC_layClause [(70, [], 0)] ls st s := rfl
theorem e_C_of (d : Nat) (s : qm_Hp) (a0 : Nat) (a1 : Int32) (a2 : Int32) (a3 : Int32) : qm_evM d jC_of [qP 1 a0, qI a1, qI a2, qI a3] s = qm_evB d jC_of 0 [qP 1 a0, qI a1, qI a2, qI a3, qU, qU] [] s := rfl
theorem b_C_of_0 (d : Nat) (ls st : List qm_AV) (s : qm_Hp) : qm_evB d jC_of 0 ls st s = qm_ev d jC_of [(4, [0], 0), (42, [1, 0, 2, 0, 0], 0), (42, [2, 0, 3, 1, 0], 0), (7, [4], 0), (4, [4], 0), (2, [1], 0), (2, [2], 0), (80, [186, 3], 0), (61, [1, 1], 0), (0, [], -1), (70, [], 0)] ls st s := rfl
theorem b_C_of_1 (d : Nat) (ls st : List qm_AV) (s : qm_Hp) : qm_evB d jC_of 1 ls st s = qm_ev d jC_of [(2, [1], 0), (2, [2], 0), (80, [54, 2], 0), (5, [5], 0), (2, [3], 0), (65, [13, 2, 3, 4, 5, 6, 7, 8, 9, 10], 0)] ls st s := rfl
theorem b_C_of_2 (d : Nat) (ls st : List qm_AV) (s : qm_Hp) : qm_evB d jC_of 2 ls st s = qm_ev d jC_of [(4, [4], 0), (42, [3, 1, 11, 1, 0], 0), (2, [5], 0), (50, [], 0), (70, [], 0)] ls st s := rfl
theorem b_C_of_3 (d : Nat) (ls st : List qm_AV) (s : qm_Hp) : qm_evB d jC_of 3 ls st s = qm_ev d jC_of [(4, [4], 0), (42, [3, 2, 12, 1, 0], 0), (2, [5], 0), (50, [], 0), (70, [], 0)] ls st s := rfl
theorem b_C_of_4 (d : Nat) (ls st : List qm_AV) (s : qm_Hp) : qm_evB d jC_of 4 ls st s = qm_ev d jC_of [(4, [4], 0), (42, [3, 3, 13, 1, 0], 0), (2, [5], 0), (50, [], 0), (70, [], 0)] ls st s := rfl
theorem b_C_of_5 (d : Nat) (ls st : List qm_AV) (s : qm_Hp) : qm_evB d jC_of 5 ls st s = qm_ev d jC_of [(4, [4], 0), (42, [3, 4, 14, 1, 0], 0), (2, [5], 0), (50, [], 0), (70, [], 0)] ls st s := rfl
theorem b_C_of_6 (d : Nat) (ls st : List qm_AV) (s : qm_Hp) : qm_evB d jC_of 6 ls st s = qm_ev d jC_of [(4, [4], 0), (42, [3, 5, 15, 1, 0], 0), (2, [5], 0), (50, [], 0), (70, [], 0)] ls st s := rfl
theorem b_C_of_7 (d : Nat) (ls st : List qm_AV) (s : qm_Hp) : qm_evB d jC_of 7 ls st s = qm_ev d jC_of [(4, [4], 0), (42, [3, 6, 16, 1, 0], 0), (2, [5], 0), (50, [], 0), (70, [], 0)] ls st s := rfl
theorem b_C_of_8 (d : Nat) (ls st : List qm_AV) (s : qm_Hp) : qm_evB d jC_of 8 ls st s = qm_ev d jC_of [(4, [0], 0), (42, [1, 4, 5, 0, 0], 0), (4, [4], 0), (2, [1], 0), (2, [2], 0), (80, [166, 4], 0), (70, [], 0)] ls st s := rfl
theorem b_C_of_9 (d : Nat) (ls st : List qm_AV) (s : qm_Hp) : qm_evB d jC_of 9 ls st s = qm_ev d jC_of [(4, [0], 0), (42, [1, 4, 5, 0, 0], 0), (4, [4], 0), (2, [1], 0), (2, [2], 0), (80, [167, 4], 0), (70, [], 0)] ls st s := rfl
theorem b_C_of_10 (d : Nat) (ls st : List qm_AV) (s : qm_Hp) : qm_evB d jC_of 10 ls st s = qm_ev d jC_of [(4, [4], 0), (42, [3, 3, 13, 1, 0], 0), (2, [5], 0), (50, [], 0), (80, [52, 1], 0), (61, [0, 11], 0), (0, [], 1), (63, [12], 0)] ls st s := rfl
theorem b_C_of_11 (d : Nat) (ls st : List qm_AV) (s : qm_Hp) : qm_evB d jC_of 11 ls st s = qm_ev d jC_of [(0, [], 0), (64, [12], 0)] ls st s := rfl
theorem b_C_of_12 (d : Nat) (ls st : List qm_AV) (s : qm_Hp) : qm_evB d jC_of 12 ls st s = qm_ev d jC_of [(70, [], 0)] ls st s := rfl
theorem b_C_of_13 (d : Nat) (ls st : List qm_AV) (s : qm_Hp) : qm_evB d jC_of 13 ls st s = qm_ev d jC_of [(0, [], -1), (70, [], 0)] ls st s := rfl
theorem e_C_stack (d : Nat) (s : qm_Hp) (a0 : Nat) (a1 : Int32) : qm_evM d jC_stack [qP 1 a0, qI a1] s = qm_evB d jC_stack 0 [qP 1 a0, qI a1, qU] [] s := rfl
theorem b_C_stack_0 (d : Nat) (ls st : List qm_AV) (s : qm_Hp) : qm_evB d jC_stack 0 ls st s = qm_ev d jC_stack [(4, [0], 0), (42, [1, 0, 2, 0, 0], 0), (42, [2, 0, 3, 1, 0], 0), (7, [2], 0), (2, [1], 0), (0, [], 10), (0, [], 9), (4, [2], 0), (40, [3, 0], 0), (10, [], 0), (80, [53, 3], 0), (61, [0, 1], 0), (4, [0], 0), (42, [1, 4, 5, 0, 0], 0), (4, [2], 0), (2, [1], 0), (0, [], 10), (11, [], 0), (80, [170, 3], 0), (70, [], 0)] ls st s := rfl
theorem b_C_stack_1 (d : Nat) (ls st : List qm_AV) (s : qm_Hp) : qm_evB d jC_stack 1 ls st s = qm_ev d jC_stack [(2, [1], 0), (0, [], 20), (0, [], 19), (4, [2], 0), (40, [3, 0], 0), (10, [], 0), (80, [53, 3], 0), (61, [0, 2], 0), (4, [2], 0), (42, [3, 7, 17, 1, 0], 0), (2, [1], 0), (0, [], 20), (11, [], 0), (50, [], 0), (70, [], 0)] ls st s := rfl
theorem b_C_stack_2 (d : Nat) (ls st : List qm_AV) (s : qm_Hp) : qm_evB d jC_stack 2 ls st s = qm_ev d jC_stack [(2, [1], 0), (65, [10, 3, 4, 5, 6, 7, 8, 9], 0)] ls st s := rfl
theorem b_C_stack_3 (d : Nat) (ls st : List qm_AV) (s : qm_Hp) : qm_evB d jC_stack 3 ls st s = qm_ev d jC_stack [(4, [0], 0), (42, [1, 4, 5, 0, 0], 0), (4, [2], 0), (80, [171, 2], 0), (70, [], 0)] ls st s := rfl
theorem b_C_stack_4 (d : Nat) (ls st : List qm_AV) (s : qm_Hp) : qm_evB d jC_stack 4 ls st s = qm_ev d jC_stack [(4, [0], 0), (42, [1, 4, 5, 0, 0], 0), (4, [2], 0), (80, [169, 2], 0), (70, [], 0)] ls st s := rfl
theorem b_C_stack_5 (d : Nat) (ls st : List qm_AV) (s : qm_Hp) : qm_evB d jC_stack 5 ls st s = qm_ev d jC_stack [(4, [2], 0), (40, [3, 9], 0), (70, [], 0)] ls st s := rfl
theorem b_C_stack_6 (d : Nat) (ls st : List qm_AV) (s : qm_Hp) : qm_evB d jC_stack 6 ls st s = qm_ev d jC_stack [(4, [2], 0), (80, [192, 1], 0), (70, [], 0)] ls st s := rfl
theorem b_C_stack_7 (d : Nat) (ls st : List qm_AV) (s : qm_Hp) : qm_evB d jC_stack 7 ls st s = qm_ev d jC_stack [(4, [2], 0), (80, [193, 1], 0), (70, [], 0)] ls st s := rfl
theorem b_C_stack_8 (d : Nat) (ls st : List qm_AV) (s : qm_Hp) : qm_evB d jC_stack 8 ls st s = qm_ev d jC_stack [(4, [0], 0), (42, [1, 4, 5, 0, 0], 0), (4, [2], 0), (80, [172, 2], 0), (70, [], 0)] ls st s := rfl
theorem b_C_stack_9 (d : Nat) (ls st : List qm_AV) (s : qm_Hp) : qm_evB d jC_stack 9 ls st s = qm_ev d jC_stack [(4, [0], 0), (42, [1, 4, 5, 0, 0], 0), (4, [2], 0), (80, [173, 2], 0), (70, [], 0)] ls st s := rfl
theorem b_C_stack_10 (d : Nat) (ls st : List qm_AV) (s : qm_Hp) : qm_evB d jC_stack 10 ls st s = qm_ev d jC_stack [(0, [], -100000), (70, [], 0)] ls st s := rfl
theorem e_C_week (d : Nat) (s : qm_Hp) (a0 : Nat) (a1 : Int32) : qm_evM d jC_week [qP 1 a0, qI a1] s = qm_evB d jC_week 0 [qP 1 a0, qI a1] [] s := rfl
theorem b_C_week_0 (d : Nat) (ls st : List qm_AV) (s : qm_Hp) : qm_evB d jC_week 0 ls st s = qm_ev d jC_week [(4, [0], 0), (2, [1], 0), (80, [47, 2], 0), (61, [0, 1], 0), (4, [0], 0), (42, [1, 0, 2, 0, 0], 0), (42, [2, 0, 3, 1, 0], 0), (40, [3, 8], 0), (0, [], 399), (60, [2, 2], 0), (64, [1], 0)] ls st s := rfl
theorem b_C_week_1 (d : Nat) (ls st : List qm_AV) (s : qm_Hp) : qm_evB d jC_week 1 ls st s = qm_ev d jC_week [(0, [], -1), (70, [], 0)] ls st s := rfl
theorem b_C_week_2 (d : Nat) (ls st : List qm_AV) (s : qm_Hp) : qm_evB d jC_week 2 ls st s = qm_ev d jC_week [(4, [0], 0), (42, [1, 4, 5, 0, 0], 0), (4, [0], 0), (42, [1, 0, 2, 0, 0], 0), (42, [2, 0, 3, 1, 0], 0), (4, [0], 0), (42, [1, 0, 2, 0, 0], 0), (2, [1], 0), (80, [175, 4], 0), (4, [0], 0), (42, [1, 0, 2, 0, 0], 0), (42, [2, 0, 3, 1, 0], 0), (40, [3, 8], 0), (70, [], 0)] ls st s := rfl
theorem e_C_take (d : Nat) (s : qm_Hp) (a0 : Nat) (a1 : Int32) : qm_evM d jC_take [qP 1 a0, qI a1] s = qm_evB d jC_take 0 [qP 1 a0, qI a1, qU, qU] [] s := rfl
theorem b_C_take_0 (d : Nat) (ls st : List qm_AV) (s : qm_Hp) : qm_evB d jC_take 0 ls st s = qm_ev d jC_take [(2, [1], 0), (0, [], 1), (0, [], 48), (80, [53, 3], 0), (61, [0, 1], 0), (2, [1], 0), (4, [0], 0), (42, [1, 0, 2, 0, 0], 0), (42, [2, 0, 3, 1, 0], 0), (80, [192, 1], 0), (60, [5, 2], 0), (64, [1], 0)] ls st s := rfl
theorem b_C_take_1 (d : Nat) (ls st : List qm_AV) (s : qm_Hp) : qm_evB d jC_take 1 ls st s = qm_ev d jC_take [(0, [], -1), (70, [], 0)] ls st s := rfl
theorem b_C_take_2 (d : Nat) (ls st : List qm_AV) (s : qm_Hp) : qm_evB d jC_take 2 ls st s = qm_ev d jC_take [(0, [], 0), (5, [2], 0), (0, [], 0), (5, [3], 0), (64, [3], 0)] ls st s := rfl
theorem b_C_take_3 (d : Nat) (ls st : List qm_AV) (s : qm_Hp) : qm_evB d jC_take 3 ls st s = qm_ev d jC_take [(2, [3], 0), (2, [1], 0), (60, [3, 4], 0), (2, [2], 0), (4, [0], 0), (80, [21, 1], 0), (10, [], 0), (5, [2], 0), (8, [3], 1), (63, [3], 0)] ls st s := rfl
theorem b_C_take_4 (d : Nat) (ls st : List qm_AV) (s : qm_Hp) : qm_evB d jC_take 4 ls st s = qm_ev d jC_take [(2, [2], 0), (70, [], 0)] ls st s := rfl
theorem e_C_takeOne (d : Nat) (s : qm_Hp) (a0 : Nat) : qm_evM d jC_takeOne [qP 1 a0] s = qm_evB d jC_takeOne 0 [qP 1 a0, qU, qU, qU, qU, qU, qU, qU, qU] [] s := rfl
theorem b_C_takeOne_0 (d : Nat) (ls st : List qm_AV) (s : qm_Hp) : qm_evB d jC_takeOne 0 ls st s = qm_ev d jC_takeOne [(4, [0], 0), (42, [1, 0, 2, 0, 0], 0), (42, [2, 0, 3, 1, 0], 0), (7, [1], 0), (0, [], -1), (5, [2], 0), (0, [], -1), (5, [3], 0), (0, [], 0), (5, [4], 0), (0, [], 0), (5, [5], 0), (64, [1], 0)] ls st s := rfl
theorem b_C_takeOne_1 (d : Nat) (ls st : List qm_AV) (s : qm_Hp) : qm_evB d jC_takeOne 1 ls st s = qm_ev d jC_takeOne [(2, [5], 0), (4, [1], 0), (40, [3, 0], 0), (60, [3, 8], 0), (4, [1], 0), (80, [185, 1], 0), (61, [0, 2], 0), (0, [], 0), (63, [3], 0)] ls st s := rfl
theorem b_C_takeOne_2 (d : Nat) (ls st : List qm_AV) (s : qm_Hp) : qm_evB d jC_takeOne 2 ls st s = qm_ev d jC_takeOne [(0, [], 0), (4, [1], 0), (42, [3, 7, 17, 1, 0], 0), (2, [5], 0), (50, [], 0), (0, [], 1), (11, [], 0), (81, [], 0), (64, [3], 0)] ls st s := rfl
theorem b_C_takeOne_3 (d : Nat) (ls st : List qm_AV) (s : qm_Hp) : qm_evB d jC_takeOne 3 ls st s = qm_ev d jC_takeOne [(5, [6], 0), (2, [6], 0), (5, [7], 0), (64, [4], 0)] ls st s := rfl
theorem b_C_takeOne_4 (d : Nat) (ls st : List qm_AV) (s : qm_Hp) : qm_evB d jC_takeOne 4 ls st s = qm_ev d jC_takeOne [(2, [7], 0), (4, [1], 0), (42, [3, 7, 17, 1, 0], 0), (2, [5], 0), (50, [], 0), (60, [3, 7], 0), (4, [0], 0), (42, [1, 4, 5, 0, 0], 0), (4, [1], 0), (2, [5], 0), (2, [7], 0), (80, [168, 4], 0), (5, [8], 0), (2, [2], 0), (0, [], -1), (60, [0, 5], 0), (2, [8], 0), (2, [4], 0), (60, [5, 6], 0), (64, [5], 0)] ls st s := rfl
theorem b_C_takeOne_5 (d : Nat) (ls st : List qm_AV) (s : qm_Hp) : qm_evB d jC_takeOne 5 ls st s = qm_ev d jC_takeOne [(2, [8], 0), (5, [4], 0), (2, [5], 0), (5, [2], 0), (2, [7], 0), (5, [3], 0), (64, [6], 0)] ls st s := rfl
theorem b_C_takeOne_6 (d : Nat) (ls st : List qm_AV) (s : qm_Hp) : qm_evB d jC_takeOne 6 ls st s = qm_ev d jC_takeOne [(8, [7], 1), (63, [4], 0)] ls st s := rfl
theorem b_C_takeOne_7 (d : Nat) (ls st : List qm_AV) (s : qm_Hp) : qm_evB d jC_takeOne 7 ls st s = qm_ev d jC_takeOne [(8, [5], 1), (63, [1], 0)] ls st s := rfl
theorem b_C_takeOne_8 (d : Nat) (ls st : List qm_AV) (s : qm_Hp) : qm_evB d jC_takeOne 8 ls st s = qm_ev d jC_takeOne [(4, [1], 0), (2, [2], 0), (2, [3], 0), (80, [186, 3], 0), (61, [1, 9], 0), (0, [], 0), (70, [], 0)] ls st s := rfl
theorem b_C_takeOne_9 (d : Nat) (ls st : List qm_AV) (s : qm_Hp) : qm_evB d jC_takeOne 9 ls st s = qm_ev d jC_takeOne [(4, [0], 0), (42, [1, 4, 5, 0, 0], 0), (4, [1], 0), (2, [2], 0), (2, [3], 0), (80, [167, 4], 0), (5, [5], 0), (4, [1], 0), (2, [2], 0), (2, [3], 0), (80, [189, 3], 0), (2, [5], 0), (70, [], 0)] ls st s := rfl
theorem e_C_order (d : Nat) (s : qm_Hp) (a0 : Nat) (a1 : Int32) (a2 : Int32) : qm_evM d jC_order [qP 1 a0, qI a1, qI a2] s = qm_evB d jC_order 0 [qP 1 a0, qI a1, qI a2, qU] [] s := rfl
theorem b_C_order_0 (d : Nat) (ls st : List qm_AV) (s : qm_Hp) : qm_evB d jC_order 0 ls st s = qm_ev d jC_order [(2, [2], 0), (61, [0, 1], 0), (2, [2], 0), (0, [], 10), (0, [], 14), (80, [53, 3], 0), (61, [0, 2], 0), (64, [1], 0)] ls st s := rfl
theorem b_C_order_1 (d : Nat) (ls st : List qm_AV) (s : qm_Hp) : qm_evB d jC_order 1 ls st s = qm_ev d jC_order [(0, [], 1), (63, [3], 0)] ls st s := rfl
theorem b_C_order_2 (d : Nat) (ls st : List qm_AV) (s : qm_Hp) : qm_evB d jC_order 2 ls st s = qm_ev d jC_order [(0, [], 0), (64, [3], 0)] ls st s := rfl
theorem b_C_order_3 (d : Nat) (ls st : List qm_AV) (s : qm_Hp) : qm_evB d jC_order 3 ls st s = qm_ev d jC_order [(5, [3], 0), (2, [3], 0), (61, [0, 4], 0), (2, [1], 0), (0, [], 1), (0, [], 5), (80, [53, 3], 0), (61, [0, 4], 0), (4, [0], 0), (2, [1], 0), (80, [46, 2], 0), (61, [1, 5], 0), (64, [4], 0)] ls st s := rfl
theorem b_C_order_4 (d : Nat) (ls st : List qm_AV) (s : qm_Hp) : qm_evB d jC_order 4 ls st s = qm_ev d jC_order [(0, [], -1), (70, [], 0)] ls st s := rfl
theorem b_C_order_5 (d : Nat) (ls st : List qm_AV) (s : qm_Hp) : qm_evB d jC_order 5 ls st s = qm_ev d jC_order [(4, [0], 0), (42, [1, 11, 8, 0, 0], 0), (4, [0], 0), (42, [1, 0, 2, 0, 0], 0), (42, [2, 0, 3, 1, 0], 0), (80, [218, 2], 0), (4, [0], 0), (42, [1, 11, 8, 0, 0], 0), (0, [], 0), (0, [], 0), (2, [1], 0), (4, [0], 0), (42, [1, 0, 2, 0, 0], 0), (42, [2, 0, 3, 1, 0], 0), (80, [192, 1], 0), (82, [], 0), (4, [0], 0), (42, [1, 0, 2, 0, 0], 0), (4, [0], 0), (42, [1, 4, 5, 0, 0], 0), (80, [219, 6], 0), (2, [2], 0), (61, [1, 6], 0), (4, [0], 0), (42, [1, 11, 8, 0, 0], 0), (40, [8, 3], 0), (70, [], 0)] ls st s := rfl
theorem b_C_order_6 (d : Nat) (ls st : List qm_AV) (s : qm_Hp) : qm_evB d jC_order 6 ls st s = qm_ev d jC_order [(2, [2], 0), (0, [], 10), (11, [], 0), (4, [0], 0), (42, [1, 11, 8, 0, 0], 0), (40, [8, 4], 0), (60, [3, 7], 0), (4, [0], 0), (42, [1, 11, 8, 0, 0], 0), (42, [8, 2, 48, 0, 0], 0), (2, [2], 0), (0, [], 10), (11, [], 0), (50, [], 0), (63, [8], 0)] ls st s := rfl
theorem b_C_order_7 (d : Nat) (ls st : List qm_AV) (s : qm_Hp) : qm_evB d jC_order 7 ls st s = qm_ev d jC_order [(0, [], -1), (64, [8], 0)] ls st s := rfl
theorem b_C_order_8 (d : Nat) (ls st : List qm_AV) (s : qm_Hp) : qm_evB d jC_order 8 ls st s = qm_ev d jC_order [(70, [], 0)] ls st s := rfl
theorem e_C_way (d : Nat) (s : qm_Hp) (a0 : Nat) (a1 : Int32) (a2 : Int32) (a3 : Int32) : qm_evM d jC_way [qP 1 a0, qI a1, qI a2, qI a3] s = qm_evB d jC_way 0 [qP 1 a0, qI a1, qI a2, qI a3, qU, qU, qU, qU] [] s := rfl
theorem b_C_way_0 (d : Nat) (ls st : List qm_AV) (s : qm_Hp) : qm_evB d jC_way 0 ls st s = qm_ev d jC_way [(2, [2], 0), (0, [], 0), (0, [], 7), (80, [53, 3], 0), (61, [0, 1], 0), (2, [3], 0), (0, [], 0), (0, [], 1), (80, [53, 3], 0), (61, [0, 1], 0), (0, [], 1), (63, [2], 0)] ls st s := rfl
theorem b_C_way_1 (d : Nat) (ls st : List qm_AV) (s : qm_Hp) : qm_evB d jC_way 1 ls st s = qm_ev d jC_way [(0, [], 0), (64, [2], 0)] ls st s := rfl
theorem b_C_way_2 (d : Nat) (ls st : List qm_AV) (s : qm_Hp) : qm_evB d jC_way 2 ls st s = qm_ev d jC_way [(5, [4], 0), (2, [2], 0), (0, [], -1), (60, [1, 3], 0), (2, [3], 0), (0, [], 0), (0, [], 2), (80, [53, 3], 0), (61, [0, 3], 0), (0, [], 1), (63, [4], 0)] ls st s := rfl
theorem b_C_way_3 (d : Nat) (ls st : List qm_AV) (s : qm_Hp) : qm_evB d jC_way 3 ls st s = qm_ev d jC_way [(0, [], 0), (64, [4], 0)] ls st s := rfl
theorem b_C_way_4 (d : Nat) (ls st : List qm_AV) (s : qm_Hp) : qm_evB d jC_way 4 ls st s = qm_ev d jC_way [(5, [5], 0), (2, [4], 0), (61, [1, 5], 0), (2, [5], 0), (61, [0, 6], 0), (64, [5], 0)] ls st s := rfl
theorem b_C_way_5 (d : Nat) (ls st : List qm_AV) (s : qm_Hp) : qm_evB d jC_way 5 ls st s = qm_ev d jC_way [(2, [1], 0), (0, [], 1), (0, [], 40), (80, [53, 3], 0), (61, [0, 6], 0), (4, [0], 0), (2, [1], 0), (80, [46, 2], 0), (61, [1, 7], 0), (64, [6], 0)] ls st s := rfl
theorem b_C_way_6 (d : Nat) (ls st : List qm_AV) (s : qm_Hp) : qm_evB d jC_way 6 ls st s = qm_ev d jC_way [(0, [], -1), (70, [], 0)] ls st s := rfl
theorem b_C_way_7 (d : Nat) (ls st : List qm_AV) (s : qm_Hp) : qm_evB d jC_way 7 ls st s = qm_ev d jC_way [(2, [4], 0), (61, [0, 10], 0), (4, [0], 0), (2, [1], 0), (2, [2], 0), (80, [24, 3], 0), (2, [3], 0), (61, [1, 8], 0), (4, [0], 0), (42, [1, 13, 54, 0, 0], 0), (2, [2], 0), (50, [], 0), (63, [9], 0)] ls st s := rfl
theorem b_C_way_8 (d : Nat) (ls st : List qm_AV) (s : qm_Hp) : qm_evB d jC_way 8 ls st s = qm_ev d jC_way [(4, [0], 0), (42, [1, 14, 55, 0, 0], 0), (2, [2], 0), (50, [], 0), (64, [9], 0)] ls st s := rfl
theorem b_C_way_9 (d : Nat) (ls st : List qm_AV) (s : qm_Hp) : qm_evB d jC_way 9 ls st s = qm_ev d jC_way [(70, [], 0)] ls st s := rfl
theorem b_C_way_10 (d : Nat) (ls st : List qm_AV) (s : qm_Hp) : qm_evB d jC_way 10 ls st s = qm_ev d jC_way [(0, [], 0), (5, [6], 0), (64, [11], 0)] ls st s := rfl
theorem b_C_way_11 (d : Nat) (ls st : List qm_AV) (s : qm_Hp) : qm_evB d jC_way 11 ls st s = qm_ev d jC_way [(2, [6], 0), (0, [], 8), (60, [3, 12], 0), (4, [0], 0), (2, [1], 0), (2, [6], 0), (80, [24, 3], 0), (8, [6], 1), (63, [11], 0)] ls st s := rfl
theorem b_C_way_12 (d : Nat) (ls st : List qm_AV) (s : qm_Hp) : qm_evB d jC_way 12 ls st s = qm_ev d jC_way [(4, [0], 0), (42, [1, 13, 54, 0, 0], 0), (80, [25, 1], 0), (5, [6], 0), (4, [0], 0), (42, [1, 14, 55, 0, 0], 0), (80, [25, 1], 0), (5, [7], 0), (2, [3], 0), (0, [], 2), (60, [1, 13], 0), (4, [0], 0), (4, [0], 0), (42, [1, 13, 54, 0, 0], 0), (2, [6], 0), (50, [], 0), (4, [0], 0), (42, [1, 14, 55, 0, 0], 0), (2, [7], 0), (50, [], 0), (80, [26, 3], 0), (70, [], 0)] ls st s := rfl
theorem b_C_way_13 (d : Nat) (ls st : List qm_AV) (s : qm_Hp) : qm_evB d jC_way 13 ls st s = qm_ev d jC_way [(2, [3], 0), (61, [1, 14], 0), (2, [6], 0), (63, [15], 0)] ls st s := rfl
theorem b_C_way_14 (d : Nat) (ls st : List qm_AV) (s : qm_Hp) : qm_evB d jC_way 14 ls st s = qm_ev d jC_way [(2, [7], 0), (64, [15], 0)] ls st s := rfl
theorem b_C_way_15 (d : Nat) (ls st : List qm_AV) (s : qm_Hp) : qm_evB d jC_way 15 ls st s = qm_ev d jC_way [(70, [], 0)] ls st s := rfl
theorem e_C_tryWay (d : Nat) (s : qm_Hp) (a0 : Nat) (a1 : Int32) (a2 : Int32) : qm_evM d jC_tryWay [qP 1 a0, qI a1, qI a2] s = qm_evB d jC_tryWay 0 [qP 1 a0, qI a1, qI a2, qU, qU, qU] [] s := rfl
theorem b_C_tryWay_0 (d : Nat) (ls st : List qm_AV) (s : qm_Hp) : qm_evB d jC_tryWay 0 ls st s = qm_ev d jC_tryWay [(4, [0], 0), (42, [1, 9, 3, 0, 2], 0), (4, [0], 0), (42, [1, 0, 2, 0, 0], 0), (42, [2, 0, 3, 1, 0], 0), (80, [184, 2], 0), (4, [0], 0), (42, [1, 9, 3, 0, 2], 0), (2, [2], 0), (0, [], 2), (14, [], 0), (61, [1, 1], 0), (0, [], 1), (63, [2], 0)] ls st s := rfl
theorem b_C_tryWay_1 (d : Nat) (ls st : List qm_AV) (s : qm_Hp) : qm_evB d jC_tryWay 1 ls st s = qm_ev d jC_tryWay [(0, [], 0), (64, [2], 0)] ls st s := rfl
theorem b_C_tryWay_2 (d : Nat) (ls st : List qm_AV) (s : qm_Hp) : qm_evB d jC_tryWay 2 ls st s = qm_ev d jC_tryWay [(80, [191, 2], 0), (4, [0], 0), (42, [1, 9, 3, 0, 2], 0), (2, [2], 0), (0, [], 2), (13, [], 0), (0, [], 2), (14, [], 0), (44, [3, 11], 0), (4, [0], 0), (42, [1, 9, 3, 0, 2], 0), (2, [2], 0), (0, [], 4), (13, [], 0), (44, [3, 12], 0), (4, [0], 0), (42, [1, 9, 3, 0, 2], 0), (80, [185, 1], 0), (61, [0, 3], 0), (0, [], 0), (63, [4], 0)] ls st s := rfl
theorem b_C_tryWay_3 (d : Nat) (ls st : List qm_AV) (s : qm_Hp) : qm_evB d jC_tryWay 3 ls st s = qm_ev d jC_tryWay [(2, [1], 0), (0, [], 1), (10, [], 0), (64, [4], 0)] ls st s := rfl
theorem b_C_tryWay_4 (d : Nat) (ls st : List qm_AV) (s : qm_Hp) : qm_evB d jC_tryWay 4 ls st s = qm_ev d jC_tryWay [(5, [3], 0), (0, [], 0), (5, [4], 0), (64, [5], 0)] ls st s := rfl
theorem b_C_tryWay_5 (d : Nat) (ls st : List qm_AV) (s : qm_Hp) : qm_evB d jC_tryWay 5 ls st s = qm_ev d jC_tryWay [(2, [4], 0), (2, [1], 0), (60, [3, 9], 0), (2, [4], 0), (0, [], 40), (60, [3, 9], 0), (4, [0], 0), (42, [1, 9, 3, 0, 2], 0), (80, [185, 1], 0), (61, [1, 6], 0), (0, [], 1), (63, [7], 0)] ls st s := rfl
theorem b_C_tryWay_6 (d : Nat) (ls st : List qm_AV) (s : qm_Hp) : qm_evB d jC_tryWay 6 ls st s = qm_ev d jC_tryWay [(0, [], 0), (64, [7], 0)] ls st s := rfl
theorem b_C_tryWay_7 (d : Nat) (ls st : List qm_AV) (s : qm_Hp) : qm_evB d jC_tryWay 7 ls st s = qm_ev d jC_tryWay [(5, [5], 0), (4, [0], 0), (42, [1, 4, 5, 0, 0], 0), (4, [0], 0), (42, [1, 9, 3, 0, 2], 0), (4, [0], 0), (42, [1, 0, 2, 0, 0], 0), (4, [0], 0), (42, [1, 0, 2, 0, 0], 0), (42, [2, 6, 25, 1, 0], 0), (2, [4], 0), (50, [], 0), (80, [175, 4], 0), (2, [5], 0), (61, [0, 8], 0), (4, [0], 0), (42, [1, 9, 3, 0, 2], 0), (80, [185, 1], 0), (61, [0, 8], 0), (2, [4], 0), (0, [], 1), (10, [], 0), (5, [3], 0), (64, [8], 0)] ls st s := rfl
theorem b_C_tryWay_8 (d : Nat) (ls st : List qm_AV) (s : qm_Hp) : qm_evB d jC_tryWay 8 ls st s = qm_ev d jC_tryWay [(8, [4], 1), (63, [5], 0)] ls st s := rfl
theorem b_C_tryWay_9 (d : Nat) (ls st : List qm_AV) (s : qm_Hp) : qm_evB d jC_tryWay 9 ls st s = qm_ev d jC_tryWay [(4, [0], 0), (42, [1, 13, 54, 0, 0], 0), (2, [2], 0), (4, [0], 0), (42, [1, 9, 3, 0, 2], 0), (80, [193, 1], 0), (51, [], 0), (4, [0], 0), (42, [1, 14, 55, 0, 0], 0), (2, [2], 0), (2, [3], 0), (51, [], 0), (72, [], 0)] ls st s := rfl
theorem e_C_bestOf (d : Nat) (s : qm_Hp) (k0 a0 : Nat) : qm_evM d jC_bestOf [qP k0 a0] s = qm_evB d jC_bestOf 0 [qP k0 a0, qU, qU] [] s := rfl
theorem b_C_bestOf_0 (d : Nat) (ls st : List qm_AV) (s : qm_Hp) : qm_evB d jC_bestOf 0 ls st s = qm_ev d jC_bestOf [(0, [], 0), (5, [1], 0), (0, [], 1), (5, [2], 0), (64, [1], 0)] ls st s := rfl
theorem b_C_bestOf_1 (d : Nat) (ls st : List qm_AV) (s : qm_Hp) : qm_evB d jC_bestOf 1 ls st s = qm_ev d jC_bestOf [(2, [2], 0), (4, [0], 0), (57, [], 0), (60, [3, 3], 0), (4, [0], 0), (2, [2], 0), (50, [], 0), (4, [0], 0), (2, [1], 0), (50, [], 0), (60, [5, 2], 0), (2, [2], 0), (5, [1], 0), (64, [2], 0)] ls st s := rfl
theorem b_C_bestOf_2 (d : Nat) (ls st : List qm_AV) (s : qm_Hp) : qm_evB d jC_bestOf 2 ls st s = qm_ev d jC_bestOf [(8, [2], 1), (63, [1], 0)] ls st s := rfl
theorem b_C_bestOf_3 (d : Nat) (ls st : List qm_AV) (s : qm_Hp) : qm_evB d jC_bestOf 3 ls st s = qm_ev d jC_bestOf [(2, [1], 0), (70, [], 0)] ls st s := rfl
theorem e_C_bestInBoth (d : Nat) (s : qm_Hp) (a0 : Nat) (a1 : Int32) (a2 : Int32) : qm_evM d jC_bestInBoth [qP 1 a0, qI a1, qI a2] s = qm_evB d jC_bestInBoth 0 [qP 1 a0, qI a1, qI a2, qU] [] s := rfl
theorem b_C_bestInBoth_0 (d : Nat) (ls st : List qm_AV) (s : qm_Hp) : qm_evB d jC_bestInBoth 0 ls st s = qm_ev d jC_bestInBoth [(0, [], 0), (5, [3], 0), (64, [1], 0)] ls st s := rfl
theorem b_C_bestInBoth_1 (d : Nat) (ls st : List qm_AV) (s : qm_Hp) : qm_evB d jC_bestInBoth 1 ls st s = qm_ev d jC_bestInBoth [(2, [3], 0), (0, [], 8), (60, [3, 3], 0), (4, [0], 0), (42, [1, 13, 54, 0, 0], 0), (2, [3], 0), (50, [], 0), (2, [1], 0), (60, [1, 2], 0), (4, [0], 0), (42, [1, 14, 55, 0, 0], 0), (2, [3], 0), (50, [], 0), (2, [2], 0), (60, [1, 2], 0), (2, [3], 0), (70, [], 0)] ls st s := rfl
theorem b_C_bestInBoth_2 (d : Nat) (ls st : List qm_AV) (s : qm_Hp) : qm_evB d jC_bestInBoth 2 ls st s = qm_ev d jC_bestInBoth [(8, [3], 1), (63, [1], 0)] ls st s := rfl
theorem b_C_bestInBoth_3 (d : Nat) (ls st : List qm_AV) (s : qm_Hp) : qm_evB d jC_bestInBoth 3 ls st s = qm_ev d jC_bestInBoth [(0, [], -1), (70, [], 0)] ls st s := rfl
theorem e_C_spans (d : Nat) (s : qm_Hp) (a0 : Nat) (a1 : Int32) (a2 : Int32) (a3 : Int32) (a4 : Int32) : qm_evM d jC_spans [qP 1 a0, qI a1, qI a2, qI a3, qI a4] s = qm_evB d jC_spans 0 [qP 1 a0, qI a1, qI a2, qI a3, qI a4] [] s := rfl
theorem b_C_spans_0 (d : Nat) (ls st : List qm_AV) (s : qm_Hp) : qm_evB d jC_spans 0 ls st s = qm_ev d jC_spans [(4, [0], 0), (42, [1, 0, 2, 0, 0], 0), (42, [2, 0, 3, 1, 0], 0), (2, [2], 0), (2, [3], 0), (80, [186, 3], 0), (61, [0, 1], 0), (2, [4], 0), (0, [], 0), (0, [], 1), (80, [53, 3], 0), (61, [0, 1], 0), (4, [0], 0), (2, [1], 0), (80, [45, 2], 0), (61, [1, 2], 0), (64, [1], 0)] ls st s := rfl
theorem b_C_spans_1 (d : Nat) (ls st : List qm_AV) (s : qm_Hp) : qm_evB d jC_spans 1 ls st s = qm_ev d jC_spans [(0, [], -1), (70, [], 0)] ls st s := rfl
theorem b_C_spans_2 (d : Nat) (ls st : List qm_AV) (s : qm_Hp) : qm_evB d jC_spans 2 ls st s = qm_ev d jC_spans [(4, [0], 0), (2, [1], 0), (80, [29, 2], 0), (2, [4], 0), (61, [1, 3], 0), (4, [0], 0), (2, [2], 0), (2, [3], 0), (80, [54, 2], 0), (80, [30, 2], 0), (63, [4], 0)] ls st s := rfl
theorem b_C_spans_3 (d : Nat) (ls st : List qm_AV) (s : qm_Hp) : qm_evB d jC_spans 3 ls st s = qm_ev d jC_spans [(4, [0], 0), (2, [2], 0), (2, [3], 0), (80, [54, 2], 0), (80, [31, 2], 0), (64, [4], 0)] ls st s := rfl
theorem b_C_spans_4 (d : Nat) (ls st : List qm_AV) (s : qm_Hp) : qm_evB d jC_spans 4 ls st s = qm_ev d jC_spans [(70, [], 0)] ls st s := rfl
theorem e_C_sure (d : Nat) (s : qm_Hp) (a0 : Nat) (a1 : Int32) (a2 : Int32) : qm_evM d jC_sure [qP 1 a0, qI a1, qI a2] s = qm_evB d jC_sure 0 [qP 1 a0, qI a1, qI a2, qU, qU, qU, qU] [] s := rfl
theorem b_C_sure_0 (d : Nat) (ls st : List qm_AV) (s : qm_Hp) : qm_evB d jC_sure 0 ls st s = qm_ev d jC_sure [(2, [2], 0), (0, [], 0), (0, [], 2), (80, [53, 3], 0), (61, [0, 1], 0), (4, [0], 0), (2, [1], 0), (80, [45, 2], 0), (61, [1, 2], 0), (64, [1], 0)] ls st s := rfl
theorem b_C_sure_1 (d : Nat) (ls st : List qm_AV) (s : qm_Hp) : qm_evB d jC_sure 1 ls st s = qm_ev d jC_sure [(0, [], -1), (70, [], 0)] ls st s := rfl
theorem b_C_sure_2 (d : Nat) (ls st : List qm_AV) (s : qm_Hp) : qm_evB d jC_sure 2 ls st s = qm_ev d jC_sure [(4, [0], 0), (2, [1], 0), (80, [29, 2], 0), (2, [2], 0), (0, [], 2), (60, [1, 3], 0), (4, [0], 0), (80, [32, 1], 0), (70, [], 0)] ls st s := rfl
theorem b_C_sure_3 (d : Nat) (ls st : List qm_AV) (s : qm_Hp) : qm_evB d jC_sure 3 ls st s = qm_ev d jC_sure [(0, [], 0), (5, [3], 0), (0, [], 0), (5, [4], 0), (64, [4], 0)] ls st s := rfl
theorem b_C_sure_4 (d : Nat) (ls st : List qm_AV) (s : qm_Hp) : qm_evB d jC_sure 4 ls st s = qm_ev d jC_sure [(2, [4], 0), (4, [0], 0), (42, [1, 0, 2, 0, 0], 0), (42, [2, 0, 3, 1, 0], 0), (40, [3, 0], 0), (60, [3, 11], 0), (0, [], 0), (5, [5], 0), (64, [5], 0)] ls st s := rfl
theorem b_C_sure_5 (d : Nat) (ls st : List qm_AV) (s : qm_Hp) : qm_evB d jC_sure 5 ls st s = qm_ev d jC_sure [(2, [5], 0), (4, [0], 0), (42, [1, 0, 2, 0, 0], 0), (42, [2, 0, 3, 1, 0], 0), (42, [3, 7, 17, 1, 0], 0), (2, [4], 0), (50, [], 0), (60, [3, 10], 0), (2, [4], 0), (2, [5], 0), (80, [54, 2], 0), (5, [6], 0), (2, [3], 0), (2, [2], 0), (61, [1, 6], 0), (4, [0], 0), (2, [6], 0), (80, [31, 2], 0), (63, [7], 0)] ls st s := rfl
theorem b_C_sure_6 (d : Nat) (ls st : List qm_AV) (s : qm_Hp) : qm_evB d jC_sure 6 ls st s = qm_ev d jC_sure [(4, [0], 0), (2, [6], 0), (80, [30, 2], 0), (64, [7], 0)] ls st s := rfl
theorem b_C_sure_7 (d : Nat) (ls st : List qm_AV) (s : qm_Hp) : qm_evB d jC_sure 7 ls st s = qm_ev d jC_sure [(80, [52, 1], 0), (61, [0, 8], 0), (0, [], 1), (63, [9], 0)] ls st s := rfl
theorem b_C_sure_8 (d : Nat) (ls st : List qm_AV) (s : qm_Hp) : qm_evB d jC_sure 8 ls st s = qm_ev d jC_sure [(0, [], 0), (64, [9], 0)] ls st s := rfl
theorem b_C_sure_9 (d : Nat) (ls st : List qm_AV) (s : qm_Hp) : qm_evB d jC_sure 9 ls st s = qm_ev d jC_sure [(10, [], 0), (5, [3], 0), (8, [5], 1), (63, [5], 0)] ls st s := rfl
theorem b_C_sure_10 (d : Nat) (ls st : List qm_AV) (s : qm_Hp) : qm_evB d jC_sure 10 ls st s = qm_ev d jC_sure [(8, [4], 1), (63, [4], 0)] ls st s := rfl
theorem b_C_sure_11 (d : Nat) (ls st : List qm_AV) (s : qm_Hp) : qm_evB d jC_sure 11 ls st s = qm_ev d jC_sure [(2, [3], 0), (70, [], 0)] ls st s := rfl
theorem e_C_trySpans (d : Nat) (s : qm_Hp) (a0 : Nat) (a1 : Int32) : qm_evM d jC_trySpans [qP 1 a0, qI a1] s = qm_evB d jC_trySpans 0 [qP 1 a0, qI a1, qU, qU, qU, qU, qU] [] s := rfl
theorem b_C_trySpans_0 (d : Nat) (ls st : List qm_AV) (s : qm_Hp) : qm_evB d jC_trySpans 0 ls st s = qm_ev d jC_trySpans [(4, [0], 0), (42, [1, 9, 3, 0, 2], 0), (4, [0], 0), (42, [1, 0, 2, 0, 0], 0), (42, [2, 0, 3, 1, 0], 0), (80, [184, 2], 0), (4, [0], 0), (42, [1, 10, 3, 0, 3], 0), (4, [0], 0), (42, [1, 0, 2, 0, 0], 0), (42, [2, 0, 3, 1, 0], 0), (80, [184, 2], 0), (0, [], 0), (5, [2], 0), (64, [1], 0)] ls st s := rfl
theorem b_C_trySpans_1 (d : Nat) (ls st : List qm_AV) (s : qm_Hp) : qm_evB d jC_trySpans 1 ls st s = qm_ev d jC_trySpans [(2, [2], 0), (4, [0], 0), (42, [1, 0, 2, 0, 0], 0), (42, [2, 0, 3, 1, 0], 0), (40, [3, 0], 0), (60, [3, 10], 0), (0, [], 0), (5, [3], 0), (64, [2], 0)] ls st s := rfl
theorem b_C_trySpans_2 (d : Nat) (ls st : List qm_AV) (s : qm_Hp) : qm_evB d jC_trySpans 2 ls st s = qm_ev d jC_trySpans [(2, [3], 0), (4, [0], 0), (42, [1, 0, 2, 0, 0], 0), (42, [2, 0, 3, 1, 0], 0), (42, [3, 7, 17, 1, 0], 0), (2, [2], 0), (50, [], 0), (60, [3, 9], 0), (2, [2], 0), (2, [3], 0), (80, [54, 2], 0), (5, [4], 0), (4, [0], 0), (42, [1, 9, 3, 0, 2], 0), (42, [3, 1, 11, 1, 0], 0), (2, [4], 0), (50, [], 0), (5, [5], 0), (4, [0], 0), (42, [1, 9, 3, 0, 2], 0), (42, [3, 5, 15, 1, 0], 0), (2, [4], 0), (50, [], 0), (0, [], -1), (60, [0, 3], 0), (0, [], 1), (63, [4], 0)] ls st s := rfl
theorem b_C_trySpans_3 (d : Nat) (ls st : List qm_AV) (s : qm_Hp) : qm_evB d jC_trySpans 3 ls st s = qm_ev d jC_trySpans [(0, [], 0), (64, [4], 0)] ls st s := rfl
theorem b_C_trySpans_4 (d : Nat) (ls st : List qm_AV) (s : qm_Hp) : qm_evB d jC_trySpans 4 ls st s = qm_ev d jC_trySpans [(5, [6], 0), (4, [0], 0), (42, [1, 9, 3, 0, 2], 0), (42, [3, 3, 13, 1, 0], 0), (2, [4], 0), (2, [6], 0), (61, [0, 5], 0), (4, [0], 0), (42, [1, 9, 3, 0, 2], 0), (42, [3, 5, 15, 1, 0], 0), (2, [4], 0), (50, [], 0), (63, [6], 0)] ls st s := rfl
theorem b_C_trySpans_5 (d : Nat) (ls st : List qm_AV) (s : qm_Hp) : qm_evB d jC_trySpans 5 ls st s = qm_ev d jC_trySpans [(4, [0], 0), (42, [1, 0, 2, 0, 0], 0), (42, [2, 7, 26, 1, 0], 0), (2, [5], 0), (50, [], 0), (64, [6], 0)] ls st s := rfl
theorem b_C_trySpans_6 (d : Nat) (ls st : List qm_AV) (s : qm_Hp) : qm_evB d jC_trySpans 6 ls st s = qm_ev d jC_trySpans [(51, [], 0), (4, [0], 0), (42, [1, 10, 3, 0, 3], 0), (42, [3, 3, 13, 1, 0], 0), (2, [4], 0), (2, [6], 0), (61, [0, 7], 0), (4, [0], 0), (42, [1, 9, 3, 0, 2], 0), (42, [3, 6, 16, 1, 0], 0), (2, [4], 0), (50, [], 0), (63, [8], 0)] ls st s := rfl
theorem b_C_trySpans_7 (d : Nat) (ls st : List qm_AV) (s : qm_Hp) : qm_evB d jC_trySpans 7 ls st s = qm_ev d jC_trySpans [(4, [0], 0), (42, [1, 0, 2, 0, 0], 0), (42, [2, 8, 27, 1, 0], 0), (2, [5], 0), (50, [], 0), (64, [8], 0)] ls st s := rfl
theorem b_C_trySpans_8 (d : Nat) (ls st : List qm_AV) (s : qm_Hp) : qm_evB d jC_trySpans 8 ls st s = qm_ev d jC_trySpans [(51, [], 0), (8, [3], 1), (63, [2], 0)] ls st s := rfl
theorem b_C_trySpans_9 (d : Nat) (ls st : List qm_AV) (s : qm_Hp) : qm_evB d jC_trySpans 9 ls st s = qm_ev d jC_trySpans [(8, [2], 1), (63, [1], 0)] ls st s := rfl
theorem b_C_trySpans_10 (d : Nat) (ls st : List qm_AV) (s : qm_Hp) : qm_evB d jC_trySpans 10 ls st s = qm_ev d jC_trySpans [(0, [], 0), (5, [2], 0), (64, [11], 0)] ls st s := rfl
theorem b_C_trySpans_11 (d : Nat) (ls st : List qm_AV) (s : qm_Hp) : qm_evB d jC_trySpans 11 ls st s = qm_ev d jC_trySpans [(2, [2], 0), (2, [1], 0), (60, [3, 12], 0), (2, [2], 0), (0, [], 40), (60, [3, 12], 0), (4, [0], 0), (42, [1, 4, 5, 0, 0], 0), (4, [0], 0), (42, [1, 9, 3, 0, 2], 0), (4, [0], 0), (42, [1, 0, 2, 0, 0], 0), (4, [0], 0), (42, [1, 0, 2, 0, 0], 0), (42, [2, 6, 25, 1, 0], 0), (2, [2], 0), (50, [], 0), (80, [175, 4], 0), (4, [0], 0), (42, [1, 4, 5, 0, 0], 0), (4, [0], 0), (42, [1, 10, 3, 0, 3], 0), (4, [0], 0), (42, [1, 0, 2, 0, 0], 0), (4, [0], 0), (42, [1, 0, 2, 0, 0], 0), (42, [2, 6, 25, 1, 0], 0), (2, [2], 0), (50, [], 0), (80, [175, 4], 0), (8, [2], 1), (63, [11], 0)] ls st s := rfl
theorem b_C_trySpans_12 (d : Nat) (ls st : List qm_AV) (s : qm_Hp) : qm_evB d jC_trySpans 12 ls st s = qm_ev d jC_trySpans [(72, [], 0)] ls st s := rfl
theorem e_C_lesser (d : Nat) (s : qm_Hp) (a0 : Nat) (a1 : Int32) : qm_evM d jC_lesser [qP 1 a0, qI a1] s = qm_evB d jC_lesser 0 [qP 1 a0, qI a1] [] s := rfl
theorem b_C_lesser_0 (d : Nat) (ls st : List qm_AV) (s : qm_Hp) : qm_evB d jC_lesser 0 ls st s = qm_ev d jC_lesser [(4, [0], 0), (42, [1, 9, 3, 0, 2], 0), (42, [3, 3, 13, 1, 0], 0), (2, [1], 0), (50, [], 0), (4, [0], 0), (42, [1, 10, 3, 0, 3], 0), (42, [3, 3, 13, 1, 0], 0), (2, [1], 0), (50, [], 0), (82, [], 0), (70, [], 0)] ls st s := rfl
theorem e_C_greater (d : Nat) (s : qm_Hp) (a0 : Nat) (a1 : Int32) : qm_evM d jC_greater [qP 1 a0, qI a1] s = qm_evB d jC_greater 0 [qP 1 a0, qI a1] [] s := rfl
theorem b_C_greater_0 (d : Nat) (ls st : List qm_AV) (s : qm_Hp) : qm_evB d jC_greater 0 ls st s = qm_ev d jC_greater [(4, [0], 0), (42, [1, 9, 3, 0, 2], 0), (42, [3, 3, 13, 1, 0], 0), (2, [1], 0), (50, [], 0), (4, [0], 0), (42, [1, 10, 3, 0, 3], 0), (42, [3, 3, 13, 1, 0], 0), (2, [1], 0), (50, [], 0), (81, [], 0), (70, [], 0)] ls st s := rfl
theorem e_C_nextToMeasure (d : Nat) (s : qm_Hp) (a0 : Nat) : qm_evM d jC_nextToMeasure [qP 1 a0] s = qm_evB d jC_nextToMeasure 0 [qP 1 a0, qU, qU, qU, qU, qU, qU] [] s := rfl
theorem b_C_nextToMeasure_0 (d : Nat) (ls st : List qm_AV) (s : qm_Hp) : qm_evB d jC_nextToMeasure 0 ls st s = qm_ev d jC_nextToMeasure [(0, [], 0), (5, [1], 0), (0, [], -1), (5, [2], 0), (0, [], 0), (5, [3], 0), (64, [1], 0)] ls st s := rfl
theorem b_C_nextToMeasure_1 (d : Nat) (ls st : List qm_AV) (s : qm_Hp) : qm_evB d jC_nextToMeasure 1 ls st s = qm_ev d jC_nextToMeasure [(2, [3], 0), (4, [0], 0), (42, [1, 0, 2, 0, 0], 0), (42, [2, 0, 3, 1, 0], 0), (40, [3, 0], 0), (60, [3, 5], 0), (0, [], 0), (5, [4], 0), (64, [2], 0)] ls st s := rfl
theorem b_C_nextToMeasure_2 (d : Nat) (ls st : List qm_AV) (s : qm_Hp) : qm_evB d jC_nextToMeasure 2 ls st s = qm_ev d jC_nextToMeasure [(2, [4], 0), (4, [0], 0), (42, [1, 0, 2, 0, 0], 0), (42, [2, 0, 3, 1, 0], 0), (42, [3, 7, 17, 1, 0], 0), (2, [3], 0), (50, [], 0), (60, [3, 4], 0), (2, [3], 0), (2, [4], 0), (80, [54, 2], 0), (5, [5], 0), (4, [0], 0), (2, [5], 0), (80, [31, 2], 0), (4, [0], 0), (2, [5], 0), (80, [30, 2], 0), (11, [], 0), (5, [6], 0), (4, [0], 0), (42, [1, 0, 2, 0, 0], 0), (42, [2, 0, 3, 1, 0], 0), (42, [3, 5, 15, 1, 0], 0), (2, [5], 0), (50, [], 0), (0, [], -1), (60, [1, 3], 0), (2, [6], 0), (2, [1], 0), (60, [5, 3], 0), (2, [6], 0), (5, [1], 0), (0, [], 10), (2, [3], 0), (12, [], 0), (2, [4], 0), (10, [], 0), (5, [2], 0), (64, [3], 0)] ls st s := rfl
theorem b_C_nextToMeasure_3 (d : Nat) (ls st : List qm_AV) (s : qm_Hp) : qm_evB d jC_nextToMeasure 3 ls st s = qm_ev d jC_nextToMeasure [(8, [4], 1), (63, [2], 0)] ls st s := rfl
theorem b_C_nextToMeasure_4 (d : Nat) (ls st : List qm_AV) (s : qm_Hp) : qm_evB d jC_nextToMeasure 4 ls st s = qm_ev d jC_nextToMeasure [(8, [3], 1), (63, [1], 0)] ls st s := rfl
theorem b_C_nextToMeasure_5 (d : Nat) (ls st : List qm_AV) (s : qm_Hp) : qm_evB d jC_nextToMeasure 5 ls st s = qm_ev d jC_nextToMeasure [(2, [2], 0), (70, [], 0)] ls st s := rfl
theorem e_C_small (d : Nat) (s : qm_Hp) (a0 : Nat) (a1 : Int32) (a2 : Int32) (a3 : Int32) : qm_evM d jC_small [qP 1 a0, qI a1, qI a2, qI a3] s = qm_evB d jC_small 0 [qP 1 a0, qI a1, qI a2, qI a3, qU, qU] [] s := rfl
theorem b_C_small_0 (d : Nat) (ls st : List qm_AV) (s : qm_Hp) : qm_evB d jC_small 0 ls st s = qm_ev d jC_small [(2, [1], 0), (80, [49, 1], 0), (61, [0, 1], 0), (2, [2], 0), (80, [50, 1], 0), (61, [0, 1], 0), (4, [0], 0), (2, [3], 0), (80, [45, 2], 0), (61, [1, 2], 0), (64, [1], 0)] ls st s := rfl
theorem b_C_small_1 (d : Nat) (ls st : List qm_AV) (s : qm_Hp) : qm_evB d jC_small 1 ls st s = qm_ev d jC_small [(0, [], -1), (70, [], 0)] ls st s := rfl
theorem b_C_small_2 (d : Nat) (ls st : List qm_AV) (s : qm_Hp) : qm_evB d jC_small 2 ls st s = qm_ev d jC_small [(0, [], 20), (5, [4], 0), (64, [3], 0)] ls st s := rfl
theorem b_C_small_3 (d : Nat) (ls st : List qm_AV) (s : qm_Hp) : qm_evB d jC_small 3 ls st s = qm_ev d jC_small [(2, [4], 0), (0, [], 1), (60, [2, 7], 0), (4, [0], 0), (42, [1, 9, 3, 0, 2], 0), (4, [0], 0), (42, [1, 0, 2, 0, 0], 0), (42, [2, 0, 3, 1, 0], 0), (80, [184, 2], 0), (4, [0], 0), (42, [1, 9, 3, 0, 2], 0), (80, [187, 1], 0), (4, [0], 0), (42, [1, 9, 3, 0, 2], 0), (0, [], 0), (2, [1], 0), (2, [4], 0), (2, [2], 0), (80, [188, 5], 0), (34, [], 0), (0, [], 0), (5, [5], 0), (64, [4], 0)] ls st s := rfl
theorem b_C_small_4 (d : Nat) (ls st : List qm_AV) (s : qm_Hp) : qm_evB d jC_small 4 ls st s = qm_ev d jC_small [(2, [5], 0), (2, [3], 0), (60, [3, 5], 0), (2, [5], 0), (0, [], 40), (60, [3, 5], 0), (4, [0], 0), (42, [1, 4, 5, 0, 0], 0), (4, [0], 0), (42, [1, 9, 3, 0, 2], 0), (4, [0], 0), (42, [1, 0, 2, 0, 0], 0), (4, [0], 0), (42, [1, 0, 2, 0, 0], 0), (42, [2, 6, 25, 1, 0], 0), (2, [5], 0), (50, [], 0), (80, [176, 4], 0), (8, [5], 1), (63, [4], 0)] ls st s := rfl
theorem b_C_small_5 (d : Nat) (ls st : List qm_AV) (s : qm_Hp) : qm_evB d jC_small 5 ls st s = qm_ev d jC_small [(4, [0], 0), (42, [1, 9, 3, 0, 2], 0), (42, [3, 3, 13, 1, 0], 0), (0, [], 0), (50, [], 0), (80, [52, 1], 0), (61, [0, 6], 0), (2, [4], 0), (70, [], 0)] ls st s := rfl
theorem b_C_small_6 (d : Nat) (ls st : List qm_AV) (s : qm_Hp) : qm_evB d jC_small 6 ls st s = qm_ev d jC_small [(8, [4], -1), (63, [3], 0)] ls st s := rfl
theorem b_C_small_7 (d : Nat) (ls st : List qm_AV) (s : qm_Hp) : qm_evB d jC_small 7 ls st s = qm_ev d jC_small [(0, [], -1), (70, [], 0)] ls st s := rfl
theorem e_C_winter (d : Nat) (s : qm_Hp) (a0 : Nat) (a1 : Int32) : qm_evM d jC_winter [qP 1 a0, qI a1] s = qm_evB d jC_winter 0 [qP 1 a0, qI a1, qU, qU, qU] [] s := rfl
theorem b_C_winter_0 (d : Nat) (ls st : List qm_AV) (s : qm_Hp) : qm_evB d jC_winter 0 ls st s = qm_ev d jC_winter [(2, [1], 0), (0, [], 1), (0, [], 999999), (80, [53, 3], 0), (61, [1, 1], 0), (0, [], -1), (70, [], 0)] ls st s := rfl
theorem b_C_winter_1 (d : Nat) (ls st : List qm_AV) (s : qm_Hp) : qm_evB d jC_winter 1 ls st s = qm_ev d jC_winter [(4, [0], 0), (80, [35, 1], 0), (5, [2], 0), (0, [], 0), (5, [3], 0), (0, [], 1), (5, [4], 0), (64, [2], 0)] ls st s := rfl
theorem b_C_winter_2 (d : Nat) (ls st : List qm_AV) (s : qm_Hp) : qm_evB d jC_winter 2 ls st s = qm_ev d jC_winter [(2, [4], 0), (2, [2], 0), (60, [4, 4], 0), (2, [3], 0), (4, [0], 0), (2, [2], 0), (80, [36, 2], 0), (10, [], 0), (5, [3], 0), (2, [3], 0), (2, [1], 0), (60, [2, 3], 0), (2, [4], 0), (70, [], 0)] ls st s := rfl
theorem b_C_winter_3 (d : Nat) (ls st : List qm_AV) (s : qm_Hp) : qm_evB d jC_winter 3 ls st s = qm_ev d jC_winter [(8, [4], 1), (63, [2], 0)] ls st s := rfl
theorem b_C_winter_4 (d : Nat) (ls st : List qm_AV) (s : qm_Hp) : qm_evB d jC_winter 4 ls st s = qm_ev d jC_winter [(0, [], -1), (70, [], 0)] ls st s := rfl
theorem e_C_listHeats (d : Nat) (s : qm_Hp) (a0 : Nat) : qm_evM d jC_listHeats [qP 1 a0] s = qm_evB d jC_listHeats 0 [qP 1 a0, qU, qU, qU] [] s := rfl
theorem b_C_listHeats_0 (d : Nat) (ls st : List qm_AV) (s : qm_Hp) : qm_evB d jC_listHeats 0 ls st s = qm_ev d jC_listHeats [(0, [], 0), (5, [1], 0), (0, [], 0), (5, [2], 0), (64, [1], 0)] ls st s := rfl
theorem b_C_listHeats_1 (d : Nat) (ls st : List qm_AV) (s : qm_Hp) : qm_evB d jC_listHeats 1 ls st s = qm_ev d jC_listHeats [(2, [2], 0), (4, [0], 0), (42, [1, 0, 2, 0, 0], 0), (42, [2, 0, 3, 1, 0], 0), (40, [3, 0], 0), (60, [3, 4], 0), (0, [], 0), (5, [3], 0), (64, [2], 0)] ls st s := rfl
theorem b_C_listHeats_2 (d : Nat) (ls st : List qm_AV) (s : qm_Hp) : qm_evB d jC_listHeats 2 ls st s = qm_ev d jC_listHeats [(2, [3], 0), (4, [0], 0), (42, [1, 0, 2, 0, 0], 0), (42, [2, 0, 3, 1, 0], 0), (42, [3, 7, 17, 1, 0], 0), (2, [2], 0), (50, [], 0), (60, [3, 3], 0), (2, [1], 0), (0, [], 48), (60, [3, 3], 0), (4, [0], 0), (42, [1, 12, 53, 0, 0], 0), (2, [1], 0), (4, [0], 0), (42, [1, 4, 5, 0, 0], 0), (4, [0], 0), (42, [1, 0, 2, 0, 0], 0), (42, [2, 0, 3, 1, 0], 0), (2, [2], 0), (2, [3], 0), (80, [167, 4], 0), (51, [], 0), (8, [1], 1), (8, [3], 1), (63, [2], 0)] ls st s := rfl
theorem b_C_listHeats_3 (d : Nat) (ls st : List qm_AV) (s : qm_Hp) : qm_evB d jC_listHeats 3 ls st s = qm_ev d jC_listHeats [(8, [2], 1), (63, [1], 0)] ls st s := rfl
theorem b_C_listHeats_4 (d : Nat) (ls st : List qm_AV) (s : qm_Hp) : qm_evB d jC_listHeats 4 ls st s = qm_ev d jC_listHeats [(2, [1], 0), (70, [], 0)] ls st s := rfl
theorem e_C_pullGreatest (d : Nat) (s : qm_Hp) (a0 : Nat) (a1 : Int32) : qm_evM d jC_pullGreatest [qP 1 a0, qI a1] s = qm_evB d jC_pullGreatest 0 [qP 1 a0, qI a1, qU, qU] [] s := rfl
theorem b_C_pullGreatest_0 (d : Nat) (ls st : List qm_AV) (s : qm_Hp) : qm_evB d jC_pullGreatest 0 ls st s = qm_ev d jC_pullGreatest [(0, [], 0), (5, [2], 0), (0, [], 1), (5, [3], 0), (64, [1], 0)] ls st s := rfl
theorem b_C_pullGreatest_1 (d : Nat) (ls st : List qm_AV) (s : qm_Hp) : qm_evB d jC_pullGreatest 1 ls st s = qm_ev d jC_pullGreatest [(2, [3], 0), (2, [1], 0), (60, [3, 3], 0), (4, [0], 0), (42, [1, 12, 53, 0, 0], 0), (2, [3], 0), (50, [], 0), (4, [0], 0), (42, [1, 12, 53, 0, 0], 0), (2, [2], 0), (50, [], 0), (60, [5, 2], 0), (2, [3], 0), (5, [2], 0), (64, [2], 0)] ls st s := rfl
theorem b_C_pullGreatest_2 (d : Nat) (ls st : List qm_AV) (s : qm_Hp) : qm_evB d jC_pullGreatest 2 ls st s = qm_ev d jC_pullGreatest [(8, [3], 1), (63, [1], 0)] ls st s := rfl
theorem b_C_pullGreatest_3 (d : Nat) (ls st : List qm_AV) (s : qm_Hp) : qm_evB d jC_pullGreatest 3 ls st s = qm_ev d jC_pullGreatest [(4, [0], 0), (42, [1, 12, 53, 0, 0], 0), (2, [2], 0), (50, [], 0), (5, [3], 0), (4, [0], 0), (42, [1, 12, 53, 0, 0], 0), (2, [2], 0), (0, [], 0), (51, [], 0), (2, [3], 0), (70, [], 0)] ls st s := rfl
theorem e_C_remember (d : Nat) (s : qm_Hp) (a0 : Nat) : qm_evM d jC_remember [qP 1 a0] s = qm_evB d jC_remember 0 [qP 1 a0] [] s := rfl
theorem b_C_remember_0 (d : Nat) (ls st : List qm_AV) (s : qm_Hp) : qm_evB d jC_remember 0 ls st s = qm_ev d jC_remember [(4, [0], 0), (42, [1, 0, 2, 0, 0], 0), (42, [2, 0, 3, 1, 0], 0), (42, [3, 7, 17, 1, 0], 0), (0, [], 0), (4, [0], 0), (42, [1, 0, 2, 0, 0], 0), (42, [2, 9, 28, 1, 0], 0), (0, [], 0), (0, [], 6), (86, [], 0), (4, [0], 0), (42, [1, 0, 2, 0, 0], 0), (0, [], 1), (47, [2, 10], 0), (4, [0], 0), (42, [1, 0, 2, 0, 0], 0), (42, [2, 0, 3, 1, 0], 0), (80, [192, 1], 0), (70, [], 0)] ls st s := rfl
theorem e_C_missing (d : Nat) (s : qm_Hp) (a0 : Nat) (a1 : Int32) (a2 : Int32) : qm_evM d jC_missing [qP 1 a0, qI a1, qI a2] s = qm_evB d jC_missing 0 [qP 1 a0, qI a1, qI a2, qU, qU] [] s := rfl
theorem b_C_missing_0 (d : Nat) (ls st : List qm_AV) (s : qm_Hp) : qm_evB d jC_missing 0 ls st s = qm_ev d jC_missing [(4, [0], 0), (42, [1, 0, 2, 0, 0], 0), (40, [2, 10], 0), (61, [1, 1], 0), (0, [], -1), (70, [], 0)] ls st s := rfl
theorem b_C_missing_1 (d : Nat) (ls st : List qm_AV) (s : qm_Hp) : qm_evB d jC_missing 1 ls st s = qm_ev d jC_missing [(2, [2], 0), (61, [1, 2], 0), (2, [1], 0), (0, [], 0), (4, [0], 0), (42, [1, 0, 2, 0, 0], 0), (42, [2, 0, 3, 1, 0], 0), (40, [3, 0], 0), (0, [], 1), (11, [], 0), (80, [53, 3], 0), (61, [0, 2], 0), (4, [0], 0), (2, [1], 0), (80, [39, 2], 0), (70, [], 0)] ls st s := rfl
theorem b_C_missing_2 (d : Nat) (ls st : List qm_AV) (s : qm_Hp) : qm_evB d jC_missing 2 ls st s = qm_ev d jC_missing [(2, [1], 0), (0, [], -1), (60, [1, 3], 0), (2, [2], 0), (0, [], 1), (0, [], 48), (80, [53, 3], 0), (61, [1, 4], 0), (64, [3], 0)] ls st s := rfl
theorem b_C_missing_3 (d : Nat) (ls st : List qm_AV) (s : qm_Hp) : qm_evB d jC_missing 3 ls st s = qm_ev d jC_missing [(0, [], -1), (70, [], 0)] ls st s := rfl
theorem b_C_missing_4 (d : Nat) (ls st : List qm_AV) (s : qm_Hp) : qm_evB d jC_missing 4 ls st s = qm_ev d jC_missing [(0, [], 0), (5, [3], 0), (0, [], 0), (5, [4], 0), (64, [5], 0)] ls st s := rfl
theorem b_C_missing_5 (d : Nat) (ls st : List qm_AV) (s : qm_Hp) : qm_evB d jC_missing 5 ls st s = qm_ev d jC_missing [(2, [4], 0), (4, [0], 0), (42, [1, 0, 2, 0, 0], 0), (42, [2, 0, 3, 1, 0], 0), (40, [3, 0], 0), (60, [3, 6], 0), (2, [3], 0), (4, [0], 0), (2, [4], 0), (80, [39, 2], 0), (10, [], 0), (5, [3], 0), (8, [4], 1), (63, [5], 0)] ls st s := rfl
theorem b_C_missing_6 (d : Nat) (ls st : List qm_AV) (s : qm_Hp) : qm_evB d jC_missing 6 ls st s = qm_ev d jC_missing [(2, [3], 0), (2, [2], 0), (10, [], 0), (0, [], 1), (11, [], 0), (2, [2], 0), (13, [], 0), (70, [], 0)] ls st s := rfl
theorem e_C_missingOf (d : Nat) (s : qm_Hp) (a0 : Nat) (a1 : Int32) : qm_evM d jC_missingOf [qP 1 a0, qI a1] s = qm_evB d jC_missingOf 0 [qP 1 a0, qI a1] [] s := rfl
theorem b_C_missingOf_0 (d : Nat) (ls st : List qm_AV) (s : qm_Hp) : qm_evB d jC_missingOf 0 ls st s = qm_ev d jC_missingOf [(0, [], 0), (4, [0], 0), (42, [1, 0, 2, 0, 0], 0), (42, [2, 9, 28, 1, 0], 0), (2, [1], 0), (50, [], 0), (4, [0], 0), (42, [1, 0, 2, 0, 0], 0), (42, [2, 0, 3, 1, 0], 0), (42, [3, 7, 17, 1, 0], 0), (2, [1], 0), (50, [], 0), (11, [], 0), (81, [], 0), (70, [], 0)] ls st s := rfl
theorem e_C_falls (d : Nat) (s : qm_Hp) (a0 : Nat) (a1 : Int32) (a2 : Int32) (a3 : Int32) : qm_evM d jC_falls [qP 1 a0, qI a1, qI a2, qI a3] s = qm_evB d jC_falls 0 [qP 1 a0, qI a1, qI a2, qI a3, qU, qU, qU] [] s := rfl
theorem b_C_falls_0 (d : Nat) (ls st : List qm_AV) (s : qm_Hp) : qm_evB d jC_falls 0 ls st s = qm_ev d jC_falls [(2, [1], 0), (0, [], 0), (0, [], 9999), (80, [53, 3], 0), (61, [0, 1], 0), (2, [2], 0), (0, [], 1), (0, [], 20), (80, [53, 3], 0), (61, [0, 1], 0), (2, [3], 0), (0, [], 1), (0, [], 40), (80, [53, 3], 0), (61, [0, 1], 0), (0, [], 1), (63, [2], 0)] ls st s := rfl
theorem b_C_falls_1 (d : Nat) (ls st : List qm_AV) (s : qm_Hp) : qm_evB d jC_falls 1 ls st s = qm_ev d jC_falls [(0, [], 0), (64, [2], 0)] ls st s := rfl
theorem b_C_falls_2 (d : Nat) (ls st : List qm_AV) (s : qm_Hp) : qm_evB d jC_falls 2 ls st s = qm_ev d jC_falls [(5, [4], 0), (2, [4], 0), (61, [0, 3], 0), (2, [1], 0), (2, [2], 0), (10, [], 0), (0, [], 1), (11, [], 0), (0, [], 9999), (60, [4, 3], 0), (4, [0], 0), (2, [3], 0), (80, [46, 2], 0), (61, [1, 4], 0), (64, [3], 0)] ls st s := rfl
theorem b_C_falls_3 (d : Nat) (ls st : List qm_AV) (s : qm_Hp) : qm_evB d jC_falls 3 ls st s = qm_ev d jC_falls [(0, [], -1), (70, [], 0)] ls st s := rfl
theorem b_C_falls_4 (d : Nat) (ls st : List qm_AV) (s : qm_Hp) : qm_evB d jC_falls 4 ls st s = qm_ev d jC_falls [(0, [], 0), (5, [5], 0), (0, [], 0), (5, [6], 0), (64, [5], 0)] ls st s := rfl
theorem b_C_falls_5 (d : Nat) (ls st : List qm_AV) (s : qm_Hp) : qm_evB d jC_falls 5 ls st s = qm_ev d jC_falls [(2, [6], 0), (2, [2], 0), (60, [3, 8], 0), (2, [5], 0), (4, [0], 0), (2, [1], 0), (2, [6], 0), (10, [], 0), (2, [3], 0), (80, [41, 3], 0), (61, [0, 6], 0), (0, [], 1), (63, [7], 0)] ls st s := rfl
theorem b_C_falls_6 (d : Nat) (ls st : List qm_AV) (s : qm_Hp) : qm_evB d jC_falls 6 ls st s = qm_ev d jC_falls [(0, [], 0), (64, [7], 0)] ls st s := rfl
theorem b_C_falls_7 (d : Nat) (ls st : List qm_AV) (s : qm_Hp) : qm_evB d jC_falls 7 ls st s = qm_ev d jC_falls [(10, [], 0), (5, [5], 0), (8, [6], 1), (63, [5], 0)] ls st s := rfl
theorem b_C_falls_8 (d : Nat) (ls st : List qm_AV) (s : qm_Hp) : qm_evB d jC_falls 8 ls st s = qm_ev d jC_falls [(2, [5], 0), (70, [], 0)] ls st s := rfl
theorem e_C_fallsBy (d : Nat) (s : qm_Hp) (a0 : Nat) (a1 : Int32) (a2 : Int32) : qm_evM d jC_fallsBy [qP 1 a0, qI a1, qI a2] s = qm_evB d jC_fallsBy 0 [qP 1 a0, qI a1, qI a2, qU, qU] [] s := rfl
theorem b_C_fallsBy_0 (d : Nat) (ls st : List qm_AV) (s : qm_Hp) : qm_evB d jC_fallsBy 0 ls st s = qm_ev d jC_fallsBy [(4, [0], 0), (42, [1, 9, 3, 0, 2], 0), (4, [0], 0), (42, [1, 0, 2, 0, 0], 0), (42, [2, 0, 3, 1, 0], 0), (80, [184, 2], 0), (2, [1], 0), (0, [], 7), (12, [], 0), (0, [], 4), (10, [], 0), (5, [3], 0), (0, [], 0), (5, [4], 0), (64, [1], 0)] ls st s := rfl
theorem b_C_fallsBy_1 (d : Nat) (ls st : List qm_AV) (s : qm_Hp) : qm_evB d jC_fallsBy 1 ls st s = qm_ev d jC_fallsBy [(2, [4], 0), (2, [2], 0), (60, [3, 2], 0), (4, [0], 0), (42, [1, 0, 2, 0, 0], 0), (40, [2, 5], 0), (61, [5, 2], 0), (4, [0], 0), (42, [1, 9, 3, 0, 2], 0), (80, [185, 1], 0), (61, [1, 2], 0), (4, [0], 0), (42, [1, 4, 5, 0, 0], 0), (4, [0], 0), (42, [1, 9, 3, 0, 2], 0), (4, [0], 0), (42, [1, 0, 2, 0, 0], 0), (2, [3], 0), (4, [0], 0), (42, [1, 0, 2, 0, 0], 0), (40, [2, 5], 0), (14, [], 0), (80, [175, 4], 0), (2, [3], 0), (0, [], 163), (12, [], 0), (0, [], 31), (10, [], 0), (0, [], 30097), (14, [], 0), (5, [3], 0), (8, [4], 1), (63, [1], 0)] ls st s := rfl
theorem b_C_fallsBy_2 (d : Nat) (ls st : List qm_AV) (s : qm_Hp) : qm_evB d jC_fallsBy 2 ls st s = qm_ev d jC_fallsBy [(4, [0], 0), (42, [1, 9, 3, 0, 2], 0), (80, [185, 1], 0), (70, [], 0)] ls st s := rfl
theorem e_C_image (d : Nat) (s : qm_Hp) (a0 : Nat) : qm_evM d jC_image [qP 1 a0] s = qm_evB d jC_image 0 [qP 1 a0] [] s := rfl
theorem b_C_image_0 (d : Nat) (ls st : List qm_AV) (s : qm_Hp) : qm_evB d jC_image 0 ls st s = qm_ev d jC_image [(4, [0], 0), (42, [1, 1, 2, 0, 1], 0), (4, [0], 0), (42, [1, 0, 2, 0, 0], 0), (80, [239, 2], 0), (4, [0], 0), (42, [1, 0, 2, 0, 0], 0), (42, [2, 0, 3, 1, 0], 0), (80, [192, 1], 0), (70, [], 0)] ls st s := rfl
theorem e_C_back (d : Nat) (s : qm_Hp) (a0 : Nat) : qm_evM d jC_back [qP 1 a0] s = qm_evB d jC_back 0 [qP 1 a0] [] s := rfl
theorem b_C_back_0 (d : Nat) (ls st : List qm_AV) (s : qm_Hp) : qm_evB d jC_back 0 ls st s = qm_ev d jC_back [(4, [0], 0), (42, [1, 0, 2, 0, 0], 0), (4, [0], 0), (42, [1, 1, 2, 0, 1], 0), (80, [239, 2], 0), (4, [0], 0), (80, [14, 1], 0), (4, [0], 0), (42, [1, 0, 2, 0, 0], 0), (42, [2, 0, 3, 1, 0], 0), (80, [192, 1], 0), (70, [], 0)] ls st s := rfl
theorem e_C_about (d : Nat) (s : qm_Hp) (a0 : Nat) (a1 : Int32) : qm_evM d jC_about [qP 1 a0, qI a1] s = qm_evB d jC_about 0 [qP 1 a0, qI a1] [] s := rfl
theorem b_C_about_0 (d : Nat) (ls st : List qm_AV) (s : qm_Hp) : qm_evB d jC_about 0 ls st s = qm_ev d jC_about [(2, [1], 0), (0, [], 10), (0, [], 49), (80, [53, 3], 0), (61, [0, 1], 0), (4, [0], 0), (42, [1, 0, 2, 0, 0], 0), (42, [2, 6, 25, 1, 0], 0), (2, [1], 0), (0, [], 10), (11, [], 0), (50, [], 0), (70, [], 0)] ls st s := rfl
theorem b_C_about_1 (d : Nat) (ls st : List qm_AV) (s : qm_Hp) : qm_evB d jC_about 1 ls st s = qm_ev d jC_about [(2, [1], 0), (65, [11, 2, 3, 4, 5, 6, 7, 8, 9, 10], 0)] ls st s := rfl
theorem b_C_about_2 (d : Nat) (ls st : List qm_AV) (s : qm_Hp) : qm_evB d jC_about 2 ls st s = qm_ev d jC_about [(4, [0], 0), (42, [1, 0, 2, 0, 0], 0), (42, [2, 0, 3, 1, 0], 0), (40, [3, 0], 0), (70, [], 0)] ls st s := rfl
theorem b_C_about_3 (d : Nat) (ls st : List qm_AV) (s : qm_Hp) : qm_evB d jC_about 3 ls st s = qm_ev d jC_about [(4, [0], 0), (42, [1, 0, 2, 0, 0], 0), (42, [2, 0, 3, 1, 0], 0), (40, [3, 8], 0), (70, [], 0)] ls st s := rfl
theorem b_C_about_4 (d : Nat) (ls st : List qm_AV) (s : qm_Hp) : qm_evB d jC_about 4 ls st s = qm_ev d jC_about [(4, [0], 0), (42, [1, 0, 2, 0, 0], 0), (40, [2, 5], 0), (70, [], 0)] ls st s := rfl
theorem b_C_about_5 (d : Nat) (ls st : List qm_AV) (s : qm_Hp) : qm_evB d jC_about 5 ls st s = qm_ev d jC_about [(4, [0], 0), (42, [1, 0, 2, 0, 0], 0), (40, [2, 11], 0), (70, [], 0)] ls st s := rfl
theorem b_C_about_6 (d : Nat) (ls st : List qm_AV) (s : qm_Hp) : qm_evB d jC_about 6 ls st s = qm_ev d jC_about [(4, [0], 0), (42, [1, 0, 2, 0, 0], 0), (40, [2, 12], 0), (70, [], 0)] ls st s := rfl
theorem b_C_about_7 (d : Nat) (ls st : List qm_AV) (s : qm_Hp) : qm_evB d jC_about 7 ls st s = qm_ev d jC_about [(4, [0], 0), (42, [1, 0, 2, 0, 0], 0), (42, [2, 0, 3, 1, 0], 0), (40, [3, 10], 0), (70, [], 0)] ls st s := rfl
theorem b_C_about_8 (d : Nat) (ls st : List qm_AV) (s : qm_Hp) : qm_evB d jC_about 8 ls st s = qm_ev d jC_about [(4, [0], 0), (42, [1, 0, 2, 0, 0], 0), (42, [2, 0, 3, 1, 0], 0), (40, [3, 11], 0), (70, [], 0)] ls st s := rfl
theorem b_C_about_9 (d : Nat) (ls st : List qm_AV) (s : qm_Hp) : qm_evB d jC_about 9 ls st s = qm_ev d jC_about [(4, [0], 0), (42, [1, 0, 2, 0, 0], 0), (42, [2, 0, 3, 1, 0], 0), (40, [3, 12], 0), (70, [], 0)] ls st s := rfl
theorem b_C_about_10 (d : Nat) (ls st : List qm_AV) (s : qm_Hp) : qm_evB d jC_about 10 ls st s = qm_ev d jC_about [(4, [0], 0), (40, [1, 7], 0), (70, [], 0)] ls st s := rfl
theorem b_C_about_11 (d : Nat) (ls st : List qm_AV) (s : qm_Hp) : qm_evB d jC_about 11 ls st s = qm_ev d jC_about [(0, [], -1), (70, [], 0)] ls st s := rfl
theorem e_C_canTry (d : Nat) (s : qm_Hp) (a0 : Nat) (a1 : Int32) : qm_evM d jC_canTry [qP 1 a0, qI a1] s = qm_evB d jC_canTry 0 [qP 1 a0, qI a1] [] s := rfl
theorem b_C_canTry_0 (d : Nat) (ls st : List qm_AV) (s : qm_Hp) : qm_evB d jC_canTry 0 ls st s = qm_ev d jC_canTry [(2, [1], 0), (61, [0, 1], 0), (2, [1], 0), (0, [], 1), (0, [], 40), (80, [53, 3], 0), (61, [0, 2], 0), (4, [0], 0), (2, [1], 0), (80, [46, 2], 0), (61, [0, 2], 0), (64, [1], 0)] ls st s := rfl
theorem b_C_canTry_1 (d : Nat) (ls st : List qm_AV) (s : qm_Hp) : qm_evB d jC_canTry 1 ls st s = qm_ev d jC_canTry [(0, [], 1), (63, [3], 0)] ls st s := rfl
theorem b_C_canTry_2 (d : Nat) (ls st : List qm_AV) (s : qm_Hp) : qm_evB d jC_canTry 2 ls st s = qm_ev d jC_canTry [(0, [], 0), (64, [3], 0)] ls st s := rfl
theorem b_C_canTry_3 (d : Nat) (ls st : List qm_AV) (s : qm_Hp) : qm_evB d jC_canTry 3 ls st s = qm_ev d jC_canTry [(70, [], 0)] ls st s := rfl
theorem e_C_canPass (d : Nat) (s : qm_Hp) (a0 : Nat) (a1 : Int32) : qm_evM d jC_canPass [qP 1 a0, qI a1] s = qm_evB d jC_canPass 0 [qP 1 a0, qI a1] [] s := rfl
theorem b_C_canPass_0 (d : Nat) (ls st : List qm_AV) (s : qm_Hp) : qm_evB d jC_canPass 0 ls st s = qm_ev d jC_canPass [(4, [0], 0), (42, [1, 0, 2, 0, 0], 0), (40, [2, 5], 0), (61, [5, 1], 0), (4, [0], 0), (42, [1, 0, 2, 0, 0], 0), (42, [2, 0, 3, 1, 0], 0), (40, [3, 8], 0), (2, [1], 0), (10, [], 0), (0, [], 399), (60, [4, 1], 0), (0, [], 1), (63, [2], 0)] ls st s := rfl
theorem b_C_canPass_1 (d : Nat) (ls st : List qm_AV) (s : qm_Hp) : qm_evB d jC_canPass 1 ls st s = qm_ev d jC_canPass [(0, [], 0), (64, [2], 0)] ls st s := rfl
theorem b_C_canPass_2 (d : Nat) (ls st : List qm_AV) (s : qm_Hp) : qm_evB d jC_canPass 2 ls st s = qm_ev d jC_canPass [(70, [], 0)] ls st s := rfl
theorem e_C_isWeather (d : Nat) (s : qm_Hp) (a0 : Nat) (a1 : Int32) : qm_evM d jC_isWeather [qP 1 a0, qI a1] s = qm_evB d jC_isWeather 0 [qP 1 a0, qI a1] [] s := rfl
theorem b_C_isWeather_0 (d : Nat) (ls st : List qm_AV) (s : qm_Hp) : qm_evB d jC_isWeather 0 ls st s = qm_ev d jC_isWeather [(2, [1], 0), (0, [], 0), (4, [0], 0), (42, [1, 0, 2, 0, 0], 0), (40, [2, 5], 0), (0, [], 1), (11, [], 0), (80, [53, 3], 0), (70, [], 0)] ls st s := rfl
theorem e_C_isText (d : Nat) (s : qm_Hp) (a0 : Nat) (a1 : Int32) : qm_evM d jC_isText [qP 1 a0, qI a1] s = qm_evB d jC_isText 0 [qP 1 a0, qI a1] [] s := rfl
theorem b_C_isText_0 (d : Nat) (ls st : List qm_AV) (s : qm_Hp) : qm_evB d jC_isText 0 ls st s = qm_ev d jC_isText [(2, [1], 0), (0, [], 0), (4, [0], 0), (42, [1, 0, 2, 0, 0], 0), (40, [2, 11], 0), (0, [], 1), (11, [], 0), (80, [53, 3], 0), (70, [], 0)] ls st s := rfl
theorem e_C_isKind (d : Nat) (s : qm_Hp) (a0 : Int32) : qm_evM d jC_isKind [qI a0] s = qm_evB d jC_isKind 0 [qI a0] [] s := rfl
theorem b_C_isKind_0 (d : Nat) (ls st : List qm_AV) (s : qm_Hp) : qm_evB d jC_isKind 0 ls st s = qm_ev d jC_isKind [(2, [0], 0), (0, [], 0), (0, [], 3), (80, [53, 3], 0), (70, [], 0)] ls st s := rfl
theorem e_C_isWater (d : Nat) (s : qm_Hp) (a0 : Int32) : qm_evM d jC_isWater [qI a0] s = qm_evB d jC_isWater 0 [qI a0] [] s := rfl
theorem b_C_isWater_0 (d : Nat) (ls st : List qm_AV) (s : qm_Hp) : qm_evB d jC_isWater 0 ls st s = qm_ev d jC_isWater [(2, [0], 0), (0, [], 0), (0, [], 2000), (80, [53, 3], 0), (70, [], 0)] ls st s := rfl
theorem e_C_isSpan (d : Nat) (s : qm_Hp) (a0 : Int32) (a1 : Int32) : qm_evM d jC_isSpan [qI a0, qI a1] s = qm_evB d jC_isSpan 0 [qI a0, qI a1] [] s := rfl
theorem b_C_isSpan_0 (d : Nat) (ls st : List qm_AV) (s : qm_Hp) : qm_evB d jC_isSpan 0 ls st s = qm_ev d jC_isSpan [(2, [0], 0), (80, [50, 1], 0), (61, [0, 1], 0), (2, [1], 0), (80, [50, 1], 0), (61, [0, 1], 0), (2, [0], 0), (2, [1], 0), (60, [4, 1], 0), (0, [], 1), (63, [2], 0)] ls st s := rfl
theorem b_C_isSpan_1 (d : Nat) (ls st : List qm_AV) (s : qm_Hp) : qm_evB d jC_isSpan 1 ls st s = qm_ev d jC_isSpan [(0, [], 0), (64, [2], 0)] ls st s := rfl
theorem b_C_isSpan_2 (d : Nat) (ls st : List qm_AV) (s : qm_Hp) : qm_evB d jC_isSpan 2 ls st s = qm_ev d jC_isSpan [(70, [], 0)] ls st s := rfl
theorem e_C_isDry (d : Nat) (s : qm_Hp) (a0 : Int32) : qm_evM d jC_isDry [qI a0] s = qm_evB d jC_isDry 0 [qI a0] [] s := rfl
theorem b_C_isDry_0 (d : Nat) (ls st : List qm_AV) (s : qm_Hp) : qm_evB d jC_isDry 0 ls st s = qm_ev d jC_isDry [(2, [0], 0), (0, [], 200), (60, [4, 1], 0), (0, [], 1), (63, [2], 0)] ls st s := rfl
theorem b_C_isDry_1 (d : Nat) (ls st : List qm_AV) (s : qm_Hp) : qm_evB d jC_isDry 1 ls st s = qm_ev d jC_isDry [(0, [], 0), (64, [2], 0)] ls st s := rfl
theorem b_C_isDry_2 (d : Nat) (ls st : List qm_AV) (s : qm_Hp) : qm_evB d jC_isDry 2 ls st s = qm_ev d jC_isDry [(70, [], 0)] ls st s := rfl
theorem e_C_within (d : Nat) (s : qm_Hp) (a0 : Int32) (a1 : Int32) (a2 : Int32) : qm_evM d jC_within [qI a0, qI a1, qI a2] s = qm_evB d jC_within 0 [qI a0, qI a1, qI a2] [] s := rfl
theorem b_C_within_0 (d : Nat) (ls st : List qm_AV) (s : qm_Hp) : qm_evB d jC_within 0 ls st s = qm_ev d jC_within [(2, [0], 0), (2, [1], 0), (60, [2, 1], 0), (2, [0], 0), (2, [2], 0), (60, [4, 1], 0), (0, [], 1), (63, [2], 0)] ls st s := rfl
theorem b_C_within_1 (d : Nat) (ls st : List qm_AV) (s : qm_Hp) : qm_evB d jC_within 1 ls st s = qm_ev d jC_within [(0, [], 0), (64, [2], 0)] ls st s := rfl
theorem b_C_within_2 (d : Nat) (ls st : List qm_AV) (s : qm_Hp) : qm_evB d jC_within 2 ls st s = qm_ev d jC_within [(70, [], 0)] ls st s := rfl
theorem e_C_placeOf (d : Nat) (s : qm_Hp) (a0 : Int32) (a1 : Int32) : qm_evM d jC_placeOf [qI a0, qI a1] s = qm_evB d jC_placeOf 0 [qI a0, qI a1] [] s := rfl
theorem b_C_placeOf_0 (d : Nat) (ls st : List qm_AV) (s : qm_Hp) : qm_evB d jC_placeOf 0 ls st s = qm_ev d jC_placeOf [(2, [0], 0), (0, [], 8), (12, [], 0), (2, [1], 0), (10, [], 0), (70, [], 0)] ls st s := rfl
end
section
theorem s_within (d : Nat) (s : qm_Hp) (a b c : Int32) : qm_evM d jC_within [qI a, qI b, qI c] s = some (some (qI (if b ≤ a ∧ a ≤ c then 1 else 0)), s) := by
  simp only [e_C_within, b_C_within_0, b_C_within_1, b_C_within_2, qx, qe, List.length_cons, List.length_nil]
  done
theorem s_holds (d : Nat) (s : qm_Hp) (i : Nat) (a b : Int32) : qm_evM d jP_holds [qP 3 i, qI a, qI b] s = none := by
  simp only [e_P_holds, b_P_holds_0, b_P_holds_1, b_P_holds_2, qx, qe, List.length_cons, List.length_nil]
  done
theorem s_add (d : Nat) (s : qm_Hp) (i : Nat) (a b c e : Int32) : qm_evM (d + 1) jP_add [qP 3 i, qI a, qI b, qI c, qI e] s = none := by
  simp only [e_P_add, b_P_add_0, b_P_add_1, b_P_add_2, qx, qe, List.length_cons, List.length_nil, s_within]
  done
end
