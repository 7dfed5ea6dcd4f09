theorem x_icst (d m : Nat) (c : List qm_Ins) (ls st : List qm_AV) (s : qm_Hp) (v : Int) : qm_ev d m ((0, [], v) :: c) ls (st) s = qm_ev d m c (ls) (qI (Int32.ofInt v) :: st) s := qm_go rfl
theorem x_lcst (d m : Nat) (c : List qm_Ins) (ls st : List qm_AV) (s : qm_Hp) (v : Int) : qm_ev d m ((1, [], v) :: c) ls (st) s = qm_ev d m c (ls) (qL (Int64.ofInt v) :: st) s := qm_go rfl
def qm_ldI (v : qm_AV) (f : Int32 → Option (Option qm_AV × qm_Hp)) : Option (Option qm_AV × qm_Hp) := match v with | .inl x => f x | _ => none
def qm_ldL (v : qm_AV) (f : Int64 → Option (Option qm_AV × qm_Hp)) : Option (Option qm_AV × qm_Hp) := match v with | .inr (.inl x) => f x | _ => none
def qm_ldP (v : qm_AV) (f : Nat → Nat → Option (Option qm_AV × qm_Hp)) : Option (Option qm_AV × qm_Hp) := match v with | .inr (.inr (q, i)) => if q = 99 ∨ q = 0 then none else f q i | _ => none
theorem qm_ldI_e (x : Int32) (f : Int32 → Option (Option qm_AV × qm_Hp)) : qm_ldI (qI x) f = f x := rfl
theorem qm_ldL_e (x : Int64) (f : Int64 → Option (Option qm_AV × qm_Hp)) : qm_ldL (qL x) f = f x := rfl
theorem qm_ldP_e (q i : Nat) (f : Nat → Nat → Option (Option qm_AV × qm_Hp)) : qm_ldP (qP q i) f = if q = 99 ∨ q = 0 then none else f q i := rfl
theorem qm_ev_no {d m : Nat} {i : qm_Ins} {c : List qm_Ins} {ls st : List qm_AV} {s : qm_Hp} (h : qm_act i ls st s = none) : qm_ev d m (i :: c) ls st s = none := by
  refine Option.ext fun r => ?_
  rw [qm_ev_iff]
  constructor
  · rintro ⟨n, hn⟩
    cases n with
    | zero => simp [qm_run] at hn
    | succ n => rw [qm_run, h] at hn; cases hn
  · intro e; cases e
theorem x_iload (d m : Nat) (c : List qm_Ins) (ls st : List qm_AV) (s : qm_Hp) (k : Nat) : qm_ev d m ((2, [k], 0) :: c) ls st s = qm_ldI (qm_lg ls k) (fun x => qm_ev d m c ls (qI x :: st) s) := by
  generalize hv : qm_lg ls k = v
  rcases v with x | x | ⟨q, i⟩
  · first | exact qm_go (by simp only [qm_act, qa_load, hv]) | exact qm_ev_no (by simp only [qm_act, qa_load, hv])
  · first | exact qm_go (by simp only [qm_act, qa_load, hv]) | exact qm_ev_no (by simp only [qm_act, qa_load, hv])
  · exact qm_ev_no (by simp only [qm_act, qa_load, hv])
theorem x_lload (d m : Nat) (c : List qm_Ins) (ls st : List qm_AV) (s : qm_Hp) (k : Nat) : qm_ev d m ((3, [k], 0) :: c) ls st s = qm_ldL (qm_lg ls k) (fun x => qm_ev d m c ls (qL x :: st) s) := by
  generalize hv : qm_lg ls k = v
  rcases v with x | x | ⟨q, i⟩
  · first | exact qm_go (by simp only [qm_act, qa_load, hv]) | exact qm_ev_no (by simp only [qm_act, qa_load, hv])
  · first | exact qm_go (by simp only [qm_act, qa_load, hv]) | exact qm_ev_no (by simp only [qm_act, qa_load, hv])
  · exact qm_ev_no (by simp only [qm_act, qa_load, hv])
theorem x_aload (d m : Nat) (c : List qm_Ins) (ls st : List qm_AV) (s : qm_Hp) (k : Nat) : qm_ev d m ((4, [k], 0) :: c) ls st s = qm_ldP (qm_lg ls k) (fun q i => qm_ev d m c ls (qP q i :: st) s) := by
  generalize hv : qm_lg ls k = v
  rcases v with x | x | ⟨q, i⟩
  · exact qm_ev_no (by simp only [qm_act, qa_load, hv])
  · exact qm_ev_no (by simp only [qm_act, qa_load, hv])
  · rw [qm_ldP_e]
    by_cases hq : q = 99 ∨ q = 0
    · rw [if_pos hq]; exact qm_ev_no (by simp only [qm_act, qa_load, hv, if_pos hq])
    · rw [if_neg hq]; exact qm_go (by simp only [qm_act, qa_load, hv, if_neg hq])
theorem x_istore (d m : Nat) (c : List qm_Ins) (ls st : List qm_AV) (s : qm_Hp) (k : Nat) (x : Int32) (h : k < ls.length) : qm_ev d m ((5, [k], 0) :: c) ls (qI x :: st) s = qm_ev d m c (qm_s1 ls k (qI x)) st s := qm_go (by simp only [qm_act, qa_store, if_pos h])
theorem x_lstore (d m : Nat) (c : List qm_Ins) (ls st : List qm_AV) (s : qm_Hp) (k : Nat) (x : Int64) (h : k + 1 < ls.length) : qm_ev d m ((6, [k], 0) :: c) ls (qL x :: st) s = qm_ev d m c (qm_s2 ls k (qL x)) st s := qm_go (by simp only [qm_act, qa_store, if_pos h])
theorem x_astore (d m : Nat) (c : List qm_Ins) (ls st : List qm_AV) (s : qm_Hp) (k q i : Nat) (hq : ¬ q = 0) (h : k < ls.length) : qm_ev d m ((7, [k], 0) :: c) ls (qP q i :: st) s = qm_ev d m c (qm_s1 ls k (qP q i)) st s := qm_go (by simp only [qm_act, qa_store, if_pos h, if_neg hq])
theorem x_iinc (d m : Nat) (c : List qm_Ins) (ls st : List qm_AV) (s : qm_Hp) (k : Nat) (v : Int) (hk : k < ls.length) : qm_ev d m ((8, [k], v) :: c) ls st s = qm_ldI (qm_lg ls k) (fun x => qm_ev d m c (qm_s1 ls k (qI (x + Int32.ofInt v))) st s) := by
  generalize hv : qm_lg ls k = w
  rcases w with x | x | ⟨q, i⟩
  · exact qm_go (by simp only [qm_act, qa_iinc, hv, if_pos hk])
  · exact qm_ev_no (by simp only [qm_act, qa_iinc, hv])
  · exact qm_ev_no (by simp only [qm_act, qa_iinc, hv])
theorem x_iadd (d m : Nat) (c : List qm_Ins) (ls st : List qm_AV) (s : qm_Hp) (x y : Int32) : qm_ev d m ((10, [], 0) :: c) ls (qI y :: qI x :: st) s = qm_ev d m c (ls) (qI (x + y) :: st) s := qm_go rfl
theorem x_isub (d m : Nat) (c : List qm_Ins) (ls st : List qm_AV) (s : qm_Hp) (x y : Int32) : qm_ev d m ((11, [], 0) :: c) ls (qI y :: qI x :: st) s = qm_ev d m c (ls) (qI (x - y) :: st) s := qm_go rfl
theorem x_imul (d m : Nat) (c : List qm_Ins) (ls st : List qm_AV) (s : qm_Hp) (x y : Int32) : qm_ev d m ((12, [], 0) :: c) ls (qI y :: qI x :: st) s = qm_ev d m c (ls) (qI (x * y) :: st) s := qm_go rfl
theorem x_iand (d m : Nat) (c : List qm_Ins) (ls st : List qm_AV) (s : qm_Hp) (x y : Int32) : qm_ev d m ((16, [], 0) :: c) ls (qI y :: qI x :: st) s = qm_ev d m c (ls) (qI (x &&& y) :: st) s := qm_go rfl
theorem x_ior (d m : Nat) (c : List qm_Ins) (ls st : List qm_AV) (s : qm_Hp) (x y : Int32) : qm_ev d m ((17, [], 0) :: c) ls (qI y :: qI x :: st) s = qm_ev d m c (ls) (qI (x ||| y) :: st) s := qm_go rfl
theorem x_ishl (d m : Nat) (c : List qm_Ins) (ls st : List qm_AV) (s : qm_Hp) (x y : Int32) : qm_ev d m ((18, [], 0) :: c) ls (qI y :: qI x :: st) s = qm_ev d m c (ls) (qI (x <<< (y &&& 31)) :: st) s := qm_go rfl
theorem x_ishr (d m : Nat) (c : List qm_Ins) (ls st : List qm_AV) (s : qm_Hp) (x y : Int32) : qm_ev d m ((19, [], 0) :: c) ls (qI y :: qI x :: st) s = qm_ev d m c (ls) (qI (x >>> (y &&& 31)) :: st) s := qm_go rfl
theorem x_iushr (d m : Nat) (c : List qm_Ins) (ls st : List qm_AV) (s : qm_Hp) (x y : Int32) : qm_ev d m ((20, [], 0) :: c) ls (qI y :: qI x :: st) s = qm_ev d m c (ls) (qI ((x.toUInt32 >>> (y.toUInt32 &&& Int32.toUInt32 31)).toInt32) :: st) s := qm_go rfl
theorem x_idiv (d m : Nat) (c : List qm_Ins) (ls st : List qm_AV) (s : qm_Hp) (x y : Int32) (h : ¬ y = 0) : qm_ev d m ((13, [], 0) :: c) ls (qI y :: qI x :: st) s = qm_ev d m c (ls) (qI (x / y) :: st) s := qm_go (by simp only [qm_act, qa_div, if_neg h])
theorem x_irem (d m : Nat) (c : List qm_Ins) (ls st : List qm_AV) (s : qm_Hp) (x y : Int32) (h : ¬ y = 0) : qm_ev d m ((14, [], 0) :: c) ls (qI y :: qI x :: st) s = qm_ev d m c (ls) (qI (x - x / y * y) :: st) s := qm_go (by simp only [qm_act, qa_div, if_neg h])
theorem x_ineg (d m : Nat) (c : List qm_Ins) (ls st : List qm_AV) (s : qm_Hp) (x : Int32) : qm_ev d m ((15, [], 0) :: c) ls (qI x :: st) s = qm_ev d m c (ls) (qI (-x) :: st) s := qm_go rfl
theorem x_ladd (d m : Nat) (c : List qm_Ins) (ls st : List qm_AV) (s : qm_Hp) (x y : Int64) : qm_ev d m ((21, [], 0) :: c) ls (qL y :: qL x :: st) s = qm_ev d m c (ls) (qL (x + y) :: st) s := qm_go rfl
theorem x_lsub (d m : Nat) (c : List qm_Ins) (ls st : List qm_AV) (s : qm_Hp) (x y : Int64) : qm_ev d m ((22, [], 0) :: c) ls (qL y :: qL x :: st) s = qm_ev d m c (ls) (qL (x - y) :: st) s := qm_go rfl
theorem x_lmul (d m : Nat) (c : List qm_Ins) (ls st : List qm_AV) (s : qm_Hp) (x y : Int64) : qm_ev d m ((23, [], 0) :: c) ls (qL y :: qL x :: st) s = qm_ev d m c (ls) (qL (x * y) :: st) s := qm_go rfl
theorem x_land (d m : Nat) (c : List qm_Ins) (ls st : List qm_AV) (s : qm_Hp) (x y : Int64) : qm_ev d m ((26, [], 0) :: c) ls (qL y :: qL x :: st) s = qm_ev d m c (ls) (qL (x &&& y) :: st) s := qm_go rfl
theorem x_lor (d m : Nat) (c : List qm_Ins) (ls st : List qm_AV) (s : qm_Hp) (x y : Int64) : qm_ev d m ((27, [], 0) :: c) ls (qL y :: qL x :: st) s = qm_ev d m c (ls) (qL (x ||| y) :: st) s := qm_go rfl
theorem x_ldiv (d m : Nat) (c : List qm_Ins) (ls st : List qm_AV) (s : qm_Hp) (x y : Int64) (h : ¬ y = 0) : qm_ev d m ((24, [], 0) :: c) ls (qL y :: qL x :: st) s = qm_ev d m c (ls) (qL (x / y) :: st) s := qm_go (by simp only [qm_act, qa_ldiv, if_neg h])
theorem x_lneg (d m : Nat) (c : List qm_Ins) (ls st : List qm_AV) (s : qm_Hp) (x : Int64) : qm_ev d m ((25, [], 0) :: c) ls (qL x :: st) s = qm_ev d m c (ls) (qL (-x) :: st) s := qm_go rfl
theorem x_lshl (d m : Nat) (c : List qm_Ins) (ls st : List qm_AV) (s : qm_Hp) (x : Int64) (y : Int32) : qm_ev d m ((28, [], 0) :: c) ls (qI y :: qL x :: st) s = qm_ev d m c (ls) (qL (x <<< (y.toInt64 &&& 63)) :: st) s := qm_go rfl
theorem x_lcmp (d m : Nat) (c : List qm_Ins) (ls st : List qm_AV) (s : qm_Hp) (x y : Int64) : qm_ev d m ((29, [], 0) :: c) ls (qL y :: qL x :: st) s = qm_ev d m c (ls) (qI (lg_cmp x y) :: st) s := qm_go rfl
theorem x_i2l (d m : Nat) (c : List qm_Ins) (ls st : List qm_AV) (s : qm_Hp) (x : Int32) : qm_ev d m ((30, [], 0) :: c) ls (qI x :: st) s = qm_ev d m c (ls) (qL x.toInt64 :: st) s := qm_go rfl
theorem x_l2i (d m : Nat) (c : List qm_Ins) (ls st : List qm_AV) (s : qm_Hp) (x : Int64) : qm_ev d m ((31, [], 0) :: c) ls (qL x :: st) s = qm_ev d m c (ls) (qI x.toInt32 :: st) s := qm_go rfl
theorem x_dupI (d m : Nat) (c : List qm_Ins) (ls st : List qm_AV) (s : qm_Hp) (x : Int32) : qm_ev d m ((32, [], 0) :: c) ls (qI x :: st) s = qm_ev d m c (ls) (qI x :: qI x :: st) s := qm_go rfl
theorem x_dupP (d m : Nat) (c : List qm_Ins) (ls st : List qm_AV) (s : qm_Hp) (x y : Nat) : qm_ev d m ((32, [], 0) :: c) ls (qP x y :: st) s = qm_ev d m c (ls) (qP x y :: qP x y :: st) s := qm_go rfl
theorem x_dup2 (d m : Nat) (c : List qm_Ins) (ls st : List qm_AV) (s : qm_Hp) (x : Int32) (q i : Nat) : qm_ev d m ((33, [], 0) :: c) ls (qI x :: qP q i :: st) s = qm_ev d m c (ls) (qI x :: qP q i :: qI x :: qP q i :: st) s := qm_go (by simp [qm_act, qa_dup2, qm_isL])
theorem x_popI (d m : Nat) (c : List qm_Ins) (ls st : List qm_AV) (s : qm_Hp) (x : Int32) : qm_ev d m ((34, [], 0) :: c) ls (qI x :: st) s = qm_ev d m c (ls) (st) s := qm_go rfl
theorem x_getI (d m : Nat) (c : List qm_Ins) (ls st : List qm_AV) (s : qm_Hp) (k f i : Nat) : qm_ev d m ((40, [k, f], 0) :: c) ls (qP k i :: st) s = qm_ev d m c (ls) (qI (zI s k i f) :: st) s := qm_go (by simp [qm_act, qa_getI])
theorem x_getL (d m : Nat) (c : List qm_Ins) (ls st : List qm_AV) (s : qm_Hp) (k f i : Nat) : qm_ev d m ((41, [k, f], 0) :: c) ls (qP k i :: st) s = qm_ev d m c (ls) (qL (zL s k i f) :: st) s := qm_go (by simp [qm_act, qa_getL])
theorem x_getP0 (d m : Nat) (c : List qm_Ins) (ls st : List qm_AV) (s : qm_Hp) (k f t ad i : Nat) : qm_ev d m ((42, [k, f, t, 0, ad], 0) :: c) ls (qP k i :: st) s = qm_ev d m c (ls) (qP t ad :: st) s := qm_go (by simp [qm_act, qa_getP])
theorem x_getP1 (d m : Nat) (c : List qm_Ins) (ls st : List qm_AV) (s : qm_Hp) (k f t i : Nat) : qm_ev d m ((42, [k, f, t, 1, 0], 0) :: c) ls (qP k i :: st) s = qm_ev d m c (ls) (qP t i :: st) s := qm_go (by simp [qm_act, qa_getP])
theorem x_getM (d m : Nat) (c : List qm_Ins) (ls st : List qm_AV) (s : qm_Hp) (k f i : Nat) : qm_ev d m ((43, [k, f], 0) :: c) ls (qP k i :: st) s = qm_ev d m c (ls) (qP (zP s k i f).1 (zP s k i f).2 :: st) s := qm_go (by simp [qm_act, qa_getM])
theorem x_putI (d m : Nat) (c : List qm_Ins) (ls st : List qm_AV) (s : qm_Hp) (k f i : Nat) (v : Int32) : qm_ev d m ((44, [k, f], 0) :: c) ls (qI v :: qP k i :: st) s = qm_ev d m c (ls) (st) (uI s k i f v) := qm_go (by simp [qm_act, qa_putI])
theorem x_putL (d m : Nat) (c : List qm_Ins) (ls st : List qm_AV) (s : qm_Hp) (k f i : Nat) (v : Int64) : qm_ev d m ((45, [k, f], 0) :: c) ls (qL v :: qP k i :: st) s = qm_ev d m c (ls) (st) (uL s k i f v) := qm_go (by simp [qm_act, qa_putL])
theorem x_putM (d m : Nat) (c : List qm_Ins) (ls st : List qm_AV) (s : qm_Hp) (k f t i j : Nat) : qm_ev d m ((46, [k, f, t], 0) :: c) ls (qP t j :: qP k i :: st) s = qm_ev d m c (ls) (st) (uP s k i f (t, j)) := qm_go (by simp [qm_act, qa_putM])
theorem x_putZ (d m : Nat) (c : List qm_Ins) (ls st : List qm_AV) (s : qm_Hp) (k f i : Nat) (v : Int32) (h : v = 0 ∨ v = 1) : qm_ev d m ((47, [k, f], 0) :: c) ls (qI v :: qP k i :: st) s = qm_ev d m c (ls) (st) (uI s k i f v) := qm_go (by simp [qm_act, qa_putZ, h])
theorem x_iald (d m : Nat) (c : List qm_Ins) (ls st : List qm_AV) (s : qm_Hp) (k i : Nat) (j : Int32) (h : vp_in j (qm_ilen s k)) : qm_ev d m ((50, [], 0) :: c) ls (qI j :: qP k i :: st) s = qm_ev d m c (ls) (qI (zI s k i j.toNatClampNeg) :: st) s := qm_go (by simp only [qm_act, qa_iald]; rw [if_neg h])
theorem x_iast (d m : Nat) (c : List qm_Ins) (ls st : List qm_AV) (s : qm_Hp) (k i : Nat) (j v : Int32) (h : vp_in j (qm_ilen s k)) (hk : ¬ k = 80) : qm_ev d m ((51, [], 0) :: c) ls (qI v :: qI j :: qP k i :: st) s = qm_ev d m c (ls) (st) (uI s k i j.toNatClampNeg v) := qm_go (by simp only [qm_act, qa_iast]; rw [if_neg (fun q => q.elim h hk)])
theorem x_lald (d m : Nat) (c : List qm_Ins) (ls st : List qm_AV) (s : qm_Hp) (k i : Nat) (j : Int32) (h : vp_in j (qm_llen k)) : qm_ev d m ((52, [], 0) :: c) ls (qI j :: qP k i :: st) s = qm_ev d m c (ls) (qL (zL s k i j.toNatClampNeg) :: st) s := qm_go (by simp only [qm_act, qa_lald]; rw [if_neg h])
theorem x_last (d m : Nat) (c : List qm_Ins) (ls st : List qm_AV) (s : qm_Hp) (k i : Nat) (j : Int32) (v : Int64) (h : vp_in j (qm_llen k)) : qm_ev d m ((53, [], 0) :: c) ls (qL v :: qI j :: qP k i :: st) s = qm_ev d m c (ls) (st) (uL s k i j.toNatClampNeg v) := qm_go (by simp only [qm_act, qa_last]; rw [if_neg h])
theorem x_bald (d m : Nat) (c : List qm_Ins) (ls st : List qm_AV) (s : qm_Hp) (k i : Nat) (j : Int32) (h : vp_in j (qm_blen k)) : qm_ev d m ((54, [], 0) :: c) ls (qI j :: qP k i :: st) s = qm_ev d m c (ls) (qI (zI s k i j.toNatClampNeg) :: st) s := qm_go (by simp only [qm_act, qa_bald]; rw [if_neg h])
theorem x_bast (d m : Nat) (c : List qm_Ins) (ls st : List qm_AV) (s : qm_Hp) (k i : Nat) (j v : Int32) (h : vp_in j (qm_blen k)) (hv : v = 0 ∨ v = 1) : qm_ev d m ((55, [], 0) :: c) ls (qI v :: qI j :: qP k i :: st) s = qm_ev d m c (ls) (st) (uI s k i j.toNatClampNeg v) := qm_go (by simp only [qm_act, qa_bast]; rw [if_neg (fun q => q.elim h (fun g => g hv))])
theorem x_aald (d m : Nat) (c : List qm_Ins) (ls st : List qm_AV) (s : qm_Hp) (k i : Nat) (j : Int32) (h : vp_in j (qm_rlen k)) : qm_ev d m ((56, [], 0) :: c) ls (qI j :: qP k i :: st) s = qm_ev d m c (ls) (qP (qm_rel k).1 ((qm_rel k).2 + j.toNatClampNeg) :: st) s := qm_go (by simp only [qm_act, qa_aald]; rw [if_neg h])
theorem x_alen (d m : Nat) (c : List qm_Ins) (ls st : List qm_AV) (s : qm_Hp) (k i : Nat) (h : k = 35 ∨ k = 42 ∨ k = 54 ∨ k = 55 ∨ k = 80) : qm_ev d m ((57, [], 0) :: c) ls (qP k i :: st) s = qm_ev d m c (ls) (qI (Int32.ofNat (qm_ilen s k)) :: st) s := qm_go (by simp only [qm_act, qa_alen]; rw [if_pos h])
theorem x_ldstr (d m : Nat) (c : List qm_Ins) (ls st : List qm_AV) (s : qm_Hp)  : qm_ev d m ((58, [], 0) :: c) ls (st) s = qm_ev d m c (ls) (qP 81 0 :: st) s := qm_go rfl
theorem x_iceq (d m : Nat) (c : List qm_Ins) (ls st : List qm_AV) (s : qm_Hp) (b : Nat) (x y : Int32) : qm_ev d m ((60, [0, b], 0) :: c) ls (qI y :: qI x :: st) s = if x = y then qm_evB d m b ls st s else qm_ev d m c ls st s := by
  by_cases h : x = y
  · rw [if_pos h]; exact qm_jump (by simp only [qm_act, qa_icmp, qm_cond, decide_eq_true h, if_pos])
  · rw [if_neg h]; exact qm_go (by simp only [qm_act, qa_icmp, qm_cond, decide_eq_false h]; rfl)
theorem x_ifeq (d m : Nat) (c : List qm_Ins) (ls st : List qm_AV) (s : qm_Hp) (b : Nat) (x : Int32) : qm_ev d m ((61, [0, b], 0) :: c) ls (qI x :: st) s = if x = 0 then qm_evB d m b ls st s else qm_ev d m c ls st s := by
  by_cases h : x = 0
  · rw [if_pos h]; exact qm_jump (by simp only [qm_act, qa_if, qm_cond, decide_eq_true h, if_pos])
  · rw [if_neg h]; exact qm_go (by simp only [qm_act, qa_if, qm_cond, decide_eq_false h]; rfl)
theorem x_icne (d m : Nat) (c : List qm_Ins) (ls st : List qm_AV) (s : qm_Hp) (b : Nat) (x y : Int32) : qm_ev d m ((60, [1, b], 0) :: c) ls (qI y :: qI x :: st) s = if ¬ x = y then qm_evB d m b ls st s else qm_ev d m c ls st s := by
  by_cases h : ¬ x = y
  · rw [if_pos h]; exact qm_jump (by simp only [qm_act, qa_icmp, qm_cond, decide_eq_true h, if_pos])
  · rw [if_neg h]; exact qm_go (by simp only [qm_act, qa_icmp, qm_cond, decide_eq_false h]; rfl)
theorem x_ifne (d m : Nat) (c : List qm_Ins) (ls st : List qm_AV) (s : qm_Hp) (b : Nat) (x : Int32) : qm_ev d m ((61, [1, b], 0) :: c) ls (qI x :: st) s = if ¬ x = 0 then qm_evB d m b ls st s else qm_ev d m c ls st s := by
  by_cases h : ¬ x = 0
  · rw [if_pos h]; exact qm_jump (by simp only [qm_act, qa_if, qm_cond, decide_eq_true h, if_pos])
  · rw [if_neg h]; exact qm_go (by simp only [qm_act, qa_if, qm_cond, decide_eq_false h]; rfl)
theorem x_iclt (d m : Nat) (c : List qm_Ins) (ls st : List qm_AV) (s : qm_Hp) (b : Nat) (x y : Int32) : qm_ev d m ((60, [2, b], 0) :: c) ls (qI y :: qI x :: st) s = if x < y then qm_evB d m b ls st s else qm_ev d m c ls st s := by
  by_cases h : x < y
  · rw [if_pos h]; exact qm_jump (by simp only [qm_act, qa_icmp, qm_cond, decide_eq_true h, if_pos])
  · rw [if_neg h]; exact qm_go (by simp only [qm_act, qa_icmp, qm_cond, decide_eq_false h]; rfl)
theorem x_iflt (d m : Nat) (c : List qm_Ins) (ls st : List qm_AV) (s : qm_Hp) (b : Nat) (x : Int32) : qm_ev d m ((61, [2, b], 0) :: c) ls (qI x :: st) s = if x < 0 then qm_evB d m b ls st s else qm_ev d m c ls st s := by
  by_cases h : x < 0
  · rw [if_pos h]; exact qm_jump (by simp only [qm_act, qa_if, qm_cond, decide_eq_true h, if_pos])
  · rw [if_neg h]; exact qm_go (by simp only [qm_act, qa_if, qm_cond, decide_eq_false h]; rfl)
theorem x_icge (d m : Nat) (c : List qm_Ins) (ls st : List qm_AV) (s : qm_Hp) (b : Nat) (x y : Int32) : qm_ev d m ((60, [3, b], 0) :: c) ls (qI y :: qI x :: st) s = if y ≤ x then qm_evB d m b ls st s else qm_ev d m c ls st s := by
  by_cases h : y ≤ x
  · rw [if_pos h]; exact qm_jump (by simp only [qm_act, qa_icmp, qm_cond, decide_eq_true h, if_pos])
  · rw [if_neg h]; exact qm_go (by simp only [qm_act, qa_icmp, qm_cond, decide_eq_false h]; rfl)
theorem x_ifge (d m : Nat) (c : List qm_Ins) (ls st : List qm_AV) (s : qm_Hp) (b : Nat) (x : Int32) : qm_ev d m ((61, [3, b], 0) :: c) ls (qI x :: st) s = if 0 ≤ x then qm_evB d m b ls st s else qm_ev d m c ls st s := by
  by_cases h : 0 ≤ x
  · rw [if_pos h]; exact qm_jump (by simp only [qm_act, qa_if, qm_cond, decide_eq_true h, if_pos])
  · rw [if_neg h]; exact qm_go (by simp only [qm_act, qa_if, qm_cond, decide_eq_false h]; rfl)
theorem x_icgt (d m : Nat) (c : List qm_Ins) (ls st : List qm_AV) (s : qm_Hp) (b : Nat) (x y : Int32) : qm_ev d m ((60, [4, b], 0) :: c) ls (qI y :: qI x :: st) s = if y < x then qm_evB d m b ls st s else qm_ev d m c ls st s := by
  by_cases h : y < x
  · rw [if_pos h]; exact qm_jump (by simp only [qm_act, qa_icmp, qm_cond, decide_eq_true h, if_pos])
  · rw [if_neg h]; exact qm_go (by simp only [qm_act, qa_icmp, qm_cond, decide_eq_false h]; rfl)
theorem x_ifgt (d m : Nat) (c : List qm_Ins) (ls st : List qm_AV) (s : qm_Hp) (b : Nat) (x : Int32) : qm_ev d m ((61, [4, b], 0) :: c) ls (qI x :: st) s = if 0 < x then qm_evB d m b ls st s else qm_ev d m c ls st s := by
  by_cases h : 0 < x
  · rw [if_pos h]; exact qm_jump (by simp only [qm_act, qa_if, qm_cond, decide_eq_true h, if_pos])
  · rw [if_neg h]; exact qm_go (by simp only [qm_act, qa_if, qm_cond, decide_eq_false h]; rfl)
theorem x_icle (d m : Nat) (c : List qm_Ins) (ls st : List qm_AV) (s : qm_Hp) (b : Nat) (x y : Int32) : qm_ev d m ((60, [5, b], 0) :: c) ls (qI y :: qI x :: st) s = if x ≤ y then qm_evB d m b ls st s else qm_ev d m c ls st s := by
  by_cases h : x ≤ y
  · rw [if_pos h]; exact qm_jump (by simp only [qm_act, qa_icmp, qm_cond, decide_eq_true h, if_pos])
  · rw [if_neg h]; exact qm_go (by simp only [qm_act, qa_icmp, qm_cond, decide_eq_false h]; rfl)
theorem x_ifle (d m : Nat) (c : List qm_Ins) (ls st : List qm_AV) (s : qm_Hp) (b : Nat) (x : Int32) : qm_ev d m ((61, [5, b], 0) :: c) ls (qI x :: st) s = if x ≤ 0 then qm_evB d m b ls st s else qm_ev d m c ls st s := by
  by_cases h : x ≤ 0
  · rw [if_pos h]; exact qm_jump (by simp only [qm_act, qa_if, qm_cond, decide_eq_true h, if_pos])
  · rw [if_neg h]; exact qm_go (by simp only [qm_act, qa_if, qm_cond, decide_eq_false h]; rfl)
theorem x_null (d m : Nat) (c : List qm_Ins) (ls st : List qm_AV) (s : qm_Hp) (b q i : Nat) (h : ¬ q = 0) : qm_ev d m ((62, [b], 0) :: c) ls (qP q i :: st) s = qm_ev d m c ls st s := qm_go (by simp only [qm_act, qa_null, if_neg h])
theorem x_goto (d m : Nat) (c : List qm_Ins) (ls st : List qm_AV) (s : qm_Hp) (b : Nat) : qm_ev d m ((63, [b], 0) :: c) ls (st) s = qm_evB d m b ls st s := qm_jump rfl
theorem x_fall (d m : Nat) (c : List qm_Ins) (ls st : List qm_AV) (s : qm_Hp) (b : Nat) : qm_ev d m ((64, [b], 0) :: c) ls (st) s = qm_evB d m b ls st s := qm_jump rfl
theorem x_tsw (d m : Nat) (c : List qm_Ins) (ls st : List qm_AV) (s : qm_Hp) (df : Nat) (bs : List Nat) (lo : Int) (x : Int32) : qm_ev d m ((65, df :: bs, lo) :: c) ls (qI x :: st) s = qm_evB d m (qm_sw bs lo x df) ls st s := qm_jump rfl
theorem x_lsw (d m : Nat) (c : List qm_Ins) (ls st : List qm_AV) (s : qm_Hp) (df : Nat) (bs : List Nat) (x : Int32) : qm_ev d m ((66, df :: bs, 0) :: c) ls (qI x :: st) s = qm_evB d m (qm_lk bs x df) ls st s := qm_jump rfl
theorem x_iret (d m : Nat) (c : List qm_Ins) (ls : List qm_AV) (s : qm_Hp) (x : Int32) : qm_ev d m ((70, [], 0) :: c) ls [qI x] s = some (some (qI x), s) := qm_ret rfl
theorem x_lret (d m : Nat) (c : List qm_Ins) (ls : List qm_AV) (s : qm_Hp) (x : Int64) : qm_ev d m ((71, [], 0) :: c) ls [qL x] s = some (some (qL x), s) := qm_ret rfl
theorem x_vret (d m : Nat) (c : List qm_Ins) (ls : List qm_AV) (s : qm_Hp) : qm_ev d m ((72, [], 0) :: c) ls [] s = some (none, s) := qm_ret rfl
theorem x_zret (d m : Nat) (c : List qm_Ins) (ls : List qm_AV) (s : qm_Hp) (x : Int32) : qm_ev d m ((73, [], 0) :: c) ls [qI x] s = if x = 0 ∨ x = 1 then some (some (qI x), s) else none := by
  by_cases h : x = 0 ∨ x = 1
  · rw [if_pos h]; exact qm_ret (by simp only [qm_act, qa_ret, if_pos h])
  · rw [if_neg h]; exact qm_ev_no (by simp only [qm_act, qa_ret, if_neg h])
theorem x_calls0 (d m : Nat) (c : List qm_Ins) (ls st : List qm_AV) (s : qm_Hp) (f : Nat) (h : qm_wid st ≤ 8) : qm_ev (d + 1) m ((80, [f, 0, 0], 0) :: c) ls (st) s = (qm_evM d f [] s).bind (fun r => qm_ev (d + 1) m c ls (qm_push r.1 st) r.2) := qm_call (by simp [qm_act, qa_call, h])
theorem x_calls1 (d m : Nat) (c : List qm_Ins) (ls st : List qm_AV) (s : qm_Hp) (f : Nat) (a0 : qm_AV) (h : qm_wid st ≤ 8) : qm_ev (d + 1) m ((80, [f, 1, 0], 0) :: c) ls (a0 :: st) s = (qm_evM d f [a0] s).bind (fun r => qm_ev (d + 1) m c ls (qm_push r.1 st) r.2) := qm_call (by simp [qm_act, qa_call, h])
theorem x_calls2 (d m : Nat) (c : List qm_Ins) (ls st : List qm_AV) (s : qm_Hp) (f : Nat) (a0 a1 : qm_AV) (h : qm_wid st ≤ 8) : qm_ev (d + 1) m ((80, [f, 2, 0], 0) :: c) ls (a1 :: a0 :: st) s = (qm_evM d f [a0, a1] s).bind (fun r => qm_ev (d + 1) m c ls (qm_push r.1 st) r.2) := qm_call (by simp [qm_act, qa_call, h])
theorem x_calls3 (d m : Nat) (c : List qm_Ins) (ls st : List qm_AV) (s : qm_Hp) (f : Nat) (a0 a1 a2 : qm_AV) (h : qm_wid st ≤ 8) : qm_ev (d + 1) m ((80, [f, 3, 0], 0) :: c) ls (a2 :: a1 :: a0 :: st) s = (qm_evM d f [a0, a1, a2] s).bind (fun r => qm_ev (d + 1) m c ls (qm_push r.1 st) r.2) := qm_call (by simp [qm_act, qa_call, h])
theorem x_calls4 (d m : Nat) (c : List qm_Ins) (ls st : List qm_AV) (s : qm_Hp) (f : Nat) (a0 a1 a2 a3 : qm_AV) (h : qm_wid st ≤ 8) : qm_ev (d + 1) m ((80, [f, 4, 0], 0) :: c) ls (a3 :: a2 :: a1 :: a0 :: st) s = (qm_evM d f [a0, a1, a2, a3] s).bind (fun r => qm_ev (d + 1) m c ls (qm_push r.1 st) r.2) := qm_call (by simp [qm_act, qa_call, h])
theorem x_calls5 (d m : Nat) (c : List qm_Ins) (ls st : List qm_AV) (s : qm_Hp) (f : Nat) (a0 a1 a2 a3 a4 : qm_AV) (h : qm_wid st ≤ 8) : qm_ev (d + 1) m ((80, [f, 5, 0], 0) :: c) ls (a4 :: a3 :: a2 :: a1 :: a0 :: st) s = (qm_evM d f [a0, a1, a2, a3, a4] s).bind (fun r => qm_ev (d + 1) m c ls (qm_push r.1 st) r.2) := qm_call (by simp [qm_act, qa_call, h])
theorem x_calls6 (d m : Nat) (c : List qm_Ins) (ls st : List qm_AV) (s : qm_Hp) (f : Nat) (a0 a1 a2 a3 a4 a5 : qm_AV) (h : qm_wid st ≤ 8) : qm_ev (d + 1) m ((80, [f, 6, 0], 0) :: c) ls (a5 :: a4 :: a3 :: a2 :: a1 :: a0 :: st) s = (qm_evM d f [a0, a1, a2, a3, a4, a5] s).bind (fun r => qm_ev (d + 1) m c ls (qm_push r.1 st) r.2) := qm_call (by simp [qm_act, qa_call, h])
theorem x_calls7 (d m : Nat) (c : List qm_Ins) (ls st : List qm_AV) (s : qm_Hp) (f : Nat) (a0 a1 a2 a3 a4 a5 a6 : qm_AV) (h : qm_wid st ≤ 8) : qm_ev (d + 1) m ((80, [f, 7, 0], 0) :: c) ls (a6 :: a5 :: a4 :: a3 :: a2 :: a1 :: a0 :: st) s = (qm_evM d f [a0, a1, a2, a3, a4, a5, a6] s).bind (fun r => qm_ev (d + 1) m c ls (qm_push r.1 st) r.2) := qm_call (by simp [qm_act, qa_call, h])
theorem x_callv1 (d m : Nat) (c : List qm_Ins) (ls st : List qm_AV) (s : qm_Hp) (f k i : Nat) (h : qm_wid st ≤ 8) : qm_ev (d + 1) m ((80, [f, 1, k], 0) :: c) ls (qP k i :: st) s = (qm_evM d f [qP k i] s).bind (fun r => qm_ev (d + 1) m c ls (qm_push r.1 st) r.2) := qm_call (by simp [qm_act, qa_call, h, qm_rk])
theorem x_callv2 (d m : Nat) (c : List qm_Ins) (ls st : List qm_AV) (s : qm_Hp) (f k i : Nat) (a1 : qm_AV) (h : qm_wid st ≤ 8) : qm_ev (d + 1) m ((80, [f, 2, k], 0) :: c) ls (a1 :: qP k i :: st) s = (qm_evM d f [qP k i, a1] s).bind (fun r => qm_ev (d + 1) m c ls (qm_push r.1 st) r.2) := qm_call (by simp [qm_act, qa_call, h, qm_rk])
theorem x_callv3 (d m : Nat) (c : List qm_Ins) (ls st : List qm_AV) (s : qm_Hp) (f k i : Nat) (a1 a2 : qm_AV) (h : qm_wid st ≤ 8) : qm_ev (d + 1) m ((80, [f, 3, k], 0) :: c) ls (a2 :: a1 :: qP k i :: st) s = (qm_evM d f [qP k i, a1, a2] s).bind (fun r => qm_ev (d + 1) m c ls (qm_push r.1 st) r.2) := qm_call (by simp [qm_act, qa_call, h, qm_rk])
theorem x_callv4 (d m : Nat) (c : List qm_Ins) (ls st : List qm_AV) (s : qm_Hp) (f k i : Nat) (a1 a2 a3 : qm_AV) (h : qm_wid st ≤ 8) : qm_ev (d + 1) m ((80, [f, 4, k], 0) :: c) ls (a3 :: a2 :: a1 :: qP k i :: st) s = (qm_evM d f [qP k i, a1, a2, a3] s).bind (fun r => qm_ev (d + 1) m c ls (qm_push r.1 st) r.2) := qm_call (by simp [qm_act, qa_call, h, qm_rk])
theorem x_callv5 (d m : Nat) (c : List qm_Ins) (ls st : List qm_AV) (s : qm_Hp) (f k i : Nat) (a1 a2 a3 a4 : qm_AV) (h : qm_wid st ≤ 8) : qm_ev (d + 1) m ((80, [f, 5, k], 0) :: c) ls (a4 :: a3 :: a2 :: a1 :: qP k i :: st) s = (qm_evM d f [qP k i, a1, a2, a3, a4] s).bind (fun r => qm_ev (d + 1) m c ls (qm_push r.1 st) r.2) := qm_call (by simp [qm_act, qa_call, h, qm_rk])
theorem x_callv6 (d m : Nat) (c : List qm_Ins) (ls st : List qm_AV) (s : qm_Hp) (f k i : Nat) (a1 a2 a3 a4 a5 : qm_AV) (h : qm_wid st ≤ 8) : qm_ev (d + 1) m ((80, [f, 6, k], 0) :: c) ls (a5 :: a4 :: a3 :: a2 :: a1 :: qP k i :: st) s = (qm_evM d f [qP k i, a1, a2, a3, a4, a5] s).bind (fun r => qm_ev (d + 1) m c ls (qm_push r.1 st) r.2) := qm_call (by simp [qm_act, qa_call, h, qm_rk])
theorem x_callv7 (d m : Nat) (c : List qm_Ins) (ls st : List qm_AV) (s : qm_Hp) (f k i : Nat) (a1 a2 a3 a4 a5 a6 : qm_AV) (h : qm_wid st ≤ 8) : qm_ev (d + 1) m ((80, [f, 7, k], 0) :: c) ls (a6 :: a5 :: a4 :: a3 :: a2 :: a1 :: qP k i :: st) s = (qm_evM d f [qP k i, a1, a2, a3, a4, a5, a6] s).bind (fun r => qm_ev (d + 1) m c ls (qm_push r.1 st) r.2) := qm_call (by simp [qm_act, qa_call, h, qm_rk])
theorem x_maxi (d m : Nat) (c : List qm_Ins) (ls st : List qm_AV) (s : qm_Hp) (x y : Int32) (h : qm_wid st ≤ 8) : qm_ev d m ((81, [], 0) :: c) ls (qI y :: qI x :: st) s = qm_ev d m c (ls) (qI (if x < y then y else x) :: st) s := qm_go (by simp only [qm_act, qa_m2, if_pos h])
theorem x_mini (d m : Nat) (c : List qm_Ins) (ls st : List qm_AV) (s : qm_Hp) (x y : Int32) (h : qm_wid st ≤ 8) : qm_ev d m ((82, [], 0) :: c) ls (qI y :: qI x :: st) s = qm_ev d m c (ls) (qI (if y < x then y else x) :: st) s := qm_go (by simp only [qm_act, qa_m2, if_pos h])
theorem x_absi (d m : Nat) (c : List qm_Ins) (ls st : List qm_AV) (s : qm_Hp) (x : Int32) (h : qm_wid st ≤ 8) : qm_ev d m ((83, [], 0) :: c) ls (qI x :: st) s = qm_ev d m c (ls) (qI (if 0 ≤ x then x else 0 - x) :: st) s := qm_go (by simp only [qm_act, qa_abs, if_pos h])
theorem x_maxl (d m : Nat) (c : List qm_Ins) (ls st : List qm_AV) (s : qm_Hp) (x y : Int64) (h : qm_wid st ≤ 8) : qm_ev d m ((84, [], 0) :: c) ls (qL y :: qL x :: st) s = qm_ev d m c (ls) (qL (if y < x then x else y) :: st) s := qm_go (by simp only [qm_act, qa_lm2, if_pos h])
theorem x_minl (d m : Nat) (c : List qm_Ins) (ls st : List qm_AV) (s : qm_Hp) (x y : Int64) (h : qm_wid st ≤ 8) : qm_ev d m ((85, [], 0) :: c) ls (qL y :: qL x :: st) s = qm_ev d m c (ls) (qL (if y < x then y else x) :: st) s := qm_go (by simp only [qm_act, qa_lm2, if_pos h])
theorem x_copy (d m : Nat) (c : List qm_Ins) (ls st : List qm_AV) (s : qm_Hp) (q i q2 i2 : Nat) (sp dp n : Int32) (h : ¬ ((sp < 0 ∨ dp < 0 ∨ n < 0) ∨ qm_ilen s q < sp.toNatClampNeg + n.toNatClampNeg ∨ qm_ilen s q2 < dp.toNatClampNeg + n.toNatClampNeg ∨ q = 80 ∨ q2 = 80 ∨ 8 < qm_wid st ∨ qm_ilen s q = 0 ∨ qm_ilen s q2 = 0)) : qm_ev d m ((86, [], 0) :: c) ls (qI n :: qI dp :: qP q2 i2 :: qI sp :: qP q i :: st) s = qm_ev d m c (ls) (st) (uC s q i sp.toNatClampNeg q2 i2 dp.toNatClampNeg n.toNatClampNeg) := qm_go (by simp only [qm_act, qa_copy]; rw [if_neg h])
theorem x_slen (d m : Nat) (c : List qm_Ins) (ls st : List qm_AV) (s : qm_Hp) (i : Nat) (h : qm_wid st ≤ 8) : qm_ev d m ((87, [], 0) :: c) ls (qP 81 i :: st) s = qm_ev d m c (ls) (qI (Int32.ofNat qm_str.length) :: st) s := qm_go (by simp [qm_act, qa_slen, h])
theorem x_char (d m : Nat) (c : List qm_Ins) (ls st : List qm_AV) (s : qm_Hp) (i : Nat) (j : Int32) (h : qm_wid st ≤ 8) (hj : vp_in j qm_str.length) : qm_ev d m ((88, [], 0) :: c) ls (qI j :: qP 81 i :: st) s = qm_ev d m c (ls) (qI (Int32.ofNat (qm_str.getD j.toNatClampNeg 0)) :: st) s := qm_go (by simp only [qm_act, qa_char]; rw [if_pos ⟨trivial, h, hj⟩])
