/-! which instruction of the bytes a step of the machine is -/
def qk_ix (x : Instr) : Nat := match x with
  | .getfield i => i | .putfield i => i | .invokevirtual i => i | .invokestatic i => i | .ldc i => i | .ldc_w i => i | .ldc2_w i => i | _ => 0
def qk_off (x : Instr) : Int := match x with
  | .if_icmp _ o => o | .ifCond _ o => o | .ifnull o => o | .goto o => o | _ => 0
def qk_cnd (c : Nat) : Jvm.ClassFile.Cond := match c with
  | 0 => .eq | 1 => .ne | 2 => .lt | 3 => .ge | 4 => .gt | _ => .le
def qk_tsw (x : Instr) : Int × Int × Int × Array Int := match x with
  | .tableswitch d l h o => (d, l, h, o)
  | _ => (0, 0, 0, #[])
def qk_lsw (x : Instr) : Int × Array (Int × Int) := match x with
  | .lookupswitch d o => (d, o)
  | _ => (0, #[])
def qk_pairs : List Nat → List (Nat × Nat)
  | k :: b :: r => (k, b) :: qk_pairs r
  | _ => []
def qk_var (k : Nat) (x y : Instr) (n : Nat) (z : Instr) : Bool := (decide (n = 2) && decide (z = x)) || (decide (n = 1) && decide (k < 4) && decide (z = y))
def qkB (m pc : Nat) (i : qm_Ins) (x : Instr) (n : Nat) : Bool := match i.1 with
  | 0 => (decide (n = 1) && decide (x = .iconst i.2.2)) || (decide (n = 2) && decide (x = .bipush i.2.2) && decide (-128 ≤ i.2.2 ∧ i.2.2 ≤ 127)) || (decide (n = 3) && decide (x = .sipush i.2.2) && decide (-32768 ≤ i.2.2 ∧ i.2.2 ≤ 32767)) || (decide (n = 2) && decide (x = .ldc (qk_ix x)) && decide ((mN m, qk_ix x, i.2.2) ∈ qm_clk)) || (decide (n = 3) && decide (x = .ldc_w (qk_ix x)) && decide ((mN m, qk_ix x, i.2.2) ∈ qm_clk))
  | 1 => (decide (n = 1) && decide (i.2.2 = 0) && decide (x = .lconst 0)) || (decide (n = 1) && decide (i.2.2 = 1) && decide (x = .lconst 1)) || (decide (n = 3) && decide (x = .ldc2_w (qk_ix x)) && decide ((mN m, qk_ix x, i.2.2) ∈ qm_llk))
  | 2 => match i.2.1 with | [k] => qk_var k (.iload k) (.iload_n (Fin.ofNat 4 k)) n x | _ => false
  | 3 => match i.2.1 with | [k] => qk_var k (.lload k) (.lload_n (Fin.ofNat 4 k)) n x | _ => false
  | 4 => match i.2.1 with | [k] => qk_var k (.aload k) (.aload_n (Fin.ofNat 4 k)) n x | _ => false
  | 5 => match i.2.1 with | [k] => qk_var k (.istore k) (.istore_n (Fin.ofNat 4 k)) n x | _ => false
  | 6 => match i.2.1 with | [k] => qk_var k (.lstore k) (.lstore_n (Fin.ofNat 4 k)) n x | _ => false
  | 7 => match i.2.1 with | [k] => qk_var k (.astore k) (.astore_n (Fin.ofNat 4 k)) n x | _ => false
  | 8 => match i.2.1 with | [k] => decide (n = 3) && decide (x = .iinc k i.2.2) | _ => false
  | 10 => decide (n = 1) && decide (x = .iadd)
  | 11 => decide (n = 1) && decide (x = .isub)
  | 12 => decide (n = 1) && decide (x = .imul)
  | 13 => decide (n = 1) && decide (x = .idiv)
  | 14 => decide (n = 1) && decide (x = .irem)
  | 15 => decide (n = 1) && decide (x = .ineg)
  | 16 => decide (n = 1) && decide (x = .iand)
  | 17 => decide (n = 1) && decide (x = .ior)
  | 18 => decide (n = 1) && decide (x = .ishl)
  | 19 => decide (n = 1) && decide (x = .ishr)
  | 20 => decide (n = 1) && decide (x = .iushr)
  | 21 => decide (n = 1) && decide (x = .ladd)
  | 22 => decide (n = 1) && decide (x = .lsub)
  | 23 => decide (n = 1) && decide (x = .lmul)
  | 24 => decide (n = 1) && decide (x = .ldiv)
  | 25 => decide (n = 1) && decide (x = .lneg)
  | 26 => decide (n = 1) && decide (x = .land)
  | 27 => decide (n = 1) && decide (x = .lor)
  | 28 => decide (n = 1) && decide (x = .lshl)
  | 29 => decide (n = 1) && decide (x = .lcmp)
  | 30 => decide (n = 1) && decide (x = .i2l)
  | 31 => decide (n = 1) && decide (x = .l2i)
  | 32 => decide (n = 1) && decide (x = .dup)
  | 33 => decide (n = 1) && decide (x = .dup2)
  | 34 => decide (n = 1) && decide (x = .pop)
  | 40 => match i.2.1 with | [k, f] => decide (n = 3) && decide (x = .getfield (qk_ix x)) && decide ((mN m, qk_ix x, k, f) ∈ qm_flk) && decide (qm_fk k f = 0 ∨ qm_fk k f = 1) | _ => false
  | 41 => match i.2.1 with | [k, f] => decide (n = 3) && decide (x = .getfield (qk_ix x)) && decide ((mN m, qk_ix x, k, f) ∈ qm_flk) && decide (qm_fk k f = 2) | _ => false
  | 42 => match i.2.1 with | [k, f, t, mu, ad] => decide (n = 3) && decide (x = .getfield (qk_ix x)) && decide ((mN m, qk_ix x, k, f) ∈ qm_flk) && decide (qm_fk k f = 3) && decide (qm_ft k f = (t, mu, ad)) | _ => false
  | 43 => match i.2.1 with | [k, f] => decide (n = 3) && decide (x = .getfield (qk_ix x)) && decide ((mN m, qk_ix x, k, f) ∈ qm_flk) && decide (qm_fk k f = 4) | _ => false
  | 44 => match i.2.1 with | [k, f] => decide (n = 3) && decide (x = .putfield (qk_ix x)) && decide ((mN m, qk_ix x, k, f) ∈ qm_flk) && decide (qm_fk k f = 0) && decide ((qm_T k f).2.2.2 = false) | _ => false
  | 45 => match i.2.1 with | [k, f] => decide (n = 3) && decide (x = .putfield (qk_ix x)) && decide ((mN m, qk_ix x, k, f) ∈ qm_flk) && decide (qm_fk k f = 2) && decide ((qm_T k f).2.2.2 = false) | _ => false
  | 46 => match i.2.1 with | [k, f, t] => decide (n = 3) && decide (x = .putfield (qk_ix x)) && decide ((mN m, qk_ix x, k, f) ∈ qm_flk) && decide (qm_fk k f = 4) && decide ((qm_T k f).2.2.2 = false) && decide (t = 4) | _ => false
  | 47 => match i.2.1 with | [k, f] => decide (n = 3) && decide (x = .putfield (qk_ix x)) && decide ((mN m, qk_ix x, k, f) ∈ qm_flk) && decide (qm_fk k f = 1) && decide ((qm_T k f).2.2.2 = false) | _ => false
  | 50 => decide (n = 1) && decide (x = .iaload)
  | 51 => decide (n = 1) && decide (x = .iastore)
  | 52 => decide (n = 1) && decide (x = .laload)
  | 53 => decide (n = 1) && decide (x = .lastore)
  | 54 => decide (n = 1) && decide (x = .baload)
  | 55 => decide (n = 1) && decide (x = .bastore)
  | 56 => decide (n = 1) && decide (x = .aaload)
  | 57 => decide (n = 1) && decide (x = .arraylength)
  | 58 => decide (n = 2) && decide (x = .ldc 49) && decide (mN m = 5)
  | 60 => match i.2.1 with | [c, b] => decide (n = 3) && decide (x = .if_icmp (qk_cnd c) (qk_off x)) && decide ((pc : Int) + qk_off x = (qm_bpc m b : Int)) | _ => false
  | 61 => match i.2.1 with | [c, b] => decide (n = 3) && decide (x = .ifCond (qk_cnd c) (qk_off x)) && decide ((pc : Int) + qk_off x = (qm_bpc m b : Int)) | _ => false
  | 62 => match i.2.1 with | [b] => decide (n = 3) && decide (x = .ifnull (qk_off x)) && decide ((pc : Int) + qk_off x = (qm_bpc m b : Int)) | _ => false
  | 63 => match i.2.1 with | [b] => decide (n = 3) && decide (x = .goto (qk_off x)) && decide ((pc : Int) + qk_off x = (qm_bpc m b : Int)) | _ => false
  | 65 => match i.2.1 with | df :: bs => decide (x = .tableswitch (qk_tsw x).1 (qk_tsw x).2.1 (qk_tsw x).2.2.1 (qk_tsw x).2.2.2) && decide ((qk_tsw x).2.1 = i.2.2) && decide ((qk_tsw x).2.2.1 = i.2.2 + bs.length - 1) && decide (0 ≤ i.2.2) && decide (bs.length < 1000) && decide (i.2.2 < 1000) && decide ((pc : Int) + (qk_tsw x).1 = (qm_bpc m df : Int)) && decide ((qk_tsw x).2.2.2.toList.map (fun o => (pc : Int) + o) = bs.map (fun b => (qm_bpc m b : Int))) | _ => false
  | 66 => match i.2.1 with | df :: bs => decide (x = .lookupswitch (qk_lsw x).1 (qk_lsw x).2) && decide (((qk_lsw x).2.toList.zip ((qk_lsw x).2.toList.drop 1)).all (fun (a, next) => a.1 < next.1) = true) && decide ((pc : Int) + (qk_lsw x).1 = (qm_bpc m df : Int)) && decide ((qk_lsw x).2.toList.map (fun o => (o.1, (pc : Int) + o.2)) = (qk_pairs bs).map (fun q => ((q.1 : Int), (qm_bpc m q.2 : Int)))) && decide (bs.length % 2 = 0) && (qk_pairs bs).all (fun q => decide (q.1 < 1000)) | _ => false
  | 70 => decide (n = 1) && decide (x = .ireturn) && decide (mR m = some .int)
  | 71 => decide (n = 1) && decide (x = .lreturn) && decide (mR m = some .long)
  | 72 => decide (n = 1) && decide (x = .return_) && decide (mR m = none)
  | 73 => decide (n = 1) && decide (x = .ireturn) && decide (mR m = some .boolean)
  | 80 => match i.2.1 with
    | [f, a, k] => (decide (n = 3) && decide (x = .invokevirtual (qk_ix x)) && decide ((f, a - 1) ∈ qm_cp) && decide (1 ≤ a) && decide (1 ≤ k ∧ k ≤ 9) && decide (qm_R k = (mY f).cls) && (decide ((mN m, qk_ix x, f, 0, a - 1) ∈ qm_mlk) || decide ((mN m, qk_ix x, f, 2, a - 1) ∈ qm_mlk)))
        || (decide (n = 3) && decide (x = .invokestatic (qk_ix x)) && decide ((f, a) ∈ qm_cp) && decide (k = 0) && (decide ((mN m, qk_ix x, f, 1, a) ∈ qm_mlk) || decide ((mN m, qk_ix x, f, 3, a) ∈ qm_mlk)))
    | _ => false
  | 81 => decide (n = 3) && decide (x = .invokestatic (qk_ix x)) && decide ((mN m, qk_ix x, 81) ∈ qm_ilk)
  | 82 => decide (n = 3) && decide (x = .invokestatic (qk_ix x)) && decide ((mN m, qk_ix x, 82) ∈ qm_ilk)
  | 83 => decide (n = 3) && decide (x = .invokestatic (qk_ix x)) && decide ((mN m, qk_ix x, 83) ∈ qm_ilk)
  | 84 => decide (n = 3) && decide (x = .invokestatic (qk_ix x)) && decide ((mN m, qk_ix x, 84) ∈ qm_ilk)
  | 85 => decide (n = 3) && decide (x = .invokestatic (qk_ix x)) && decide ((mN m, qk_ix x, 85) ∈ qm_ilk)
  | 86 => decide (n = 3) && decide (x = .invokestatic (qk_ix x)) && decide ((mN m, qk_ix x, 86) ∈ qm_ilk)
  | 87 => decide (n = 3) && decide (x = .invokevirtual (qk_ix x)) && decide ((mN m, qk_ix x, 87) ∈ qm_ilk)
  | 88 => decide (n = 3) && decide (x = .invokevirtual (qk_ix x)) && decide ((mN m, qk_ix x, 88) ∈ qm_ilk)
  | _ => false
/-- a block at a place of the method's bytes -/
def qk_blk (m : Nat) : Nat → List qm_Ins → Bool
  | _, [] => true
  | pc, i :: c => if i.1 = 64 then (match i.2.1 with | [b] => decide (qm_bpc m b = pc) | _ => false) else match decode (mC m) pc with
    | .ok (x, n) => qkB m pc i x n && qk_blk m (pc + n) c
    | .error _ => false
def qk_m (m : Nat) : Bool := (List.range ((qm_code.getD m (0, [])).2.length)).all (fun b => qk_blk m (qm_bpc m b) (qm_blk m b)) && decide (qm_maxL m ≤ 30)
