/-! the pure machine: cells (0, class, fields), (1, kind of row, contents); a string constant i is '.retAddr i' -/
abbrev pm_cl : List vw_C := [(RX0, TX0, 12), (RX1, TX1, 1), (RX2, TX2, 4), (RX3, TX3, 4), (RX4, TX4, 3), (RX5, TX5, 1), (RX6, TX6, 3), (RX7, TX7, 8), (RX8, TX8, 7), (RX9, TX9, 4), (RX10, TX10, 4), (RX11, TX11, 14), (RX12, TX12, 46)]
abbrev pm_C : Type := Nat × Nat × List Value
abbrev pm_H : Type := List pm_C
abbrev pm_L : Type := List (Nat × Value)
def pm_m (k : Nat) : MethodName × ByteArray × Nat × Option FieldType × Nat × Nat × Nat := pm_M.getD k (⟨"", "", ""⟩, ⟨#[]⟩, 0, none, 0, 0, 0)
def pm_y (k : Nat) : MethodName := (pm_m k).1
def pm_c (k : Nat) : ByteArray := (pm_m k).2.1
def pm_n (k : Nat) : Nat := (pm_m k).2.2.1
def pm_r (k : Nat) : Option FieldType := (pm_m k).2.2.2.1
def pm_a (k : Nat) : Nat := (pm_m k).2.2.2.2.1
def pm_o (k : Nat) : Nat := (pm_m k).2.2.2.2.2.1
def pm_k (k : Nat) : Nat := (pm_m k).2.2.2.2.2.2
def pm_I (k pc : Nat) : Option pm_Q := ((pm_T.getD k []).find? (fun x => x.1 == pc)).map (·.2)
def pm_ld (lv : pm_L) (i : Nat) : Option Value := (lv.find? (fun q => q.1 == i)).map (·.2)
def pm_li (lv : pm_L) (i : Nat) : Option Value := match pm_ld lv i with
  | some (.int x) => some (.int x)
  | _ => none
def pm_ll (lv : pm_L) (i : Nat) : Option Value := match pm_ld lv i with
  | some (.long x) => some (.long x)
  | _ => none
def pm_la (lv : pm_L) (i : Nat) : Option Value := match pm_ld lv i with
  | some (.ref x) => some (.ref x)
  | some .null => some .null
  | some (.retAddr x) => some (.retAddr x)
  | _ => none
def pm_s1 (lv : pm_L) (i : Nat) (v : Value) : pm_L := (i, v) :: lv.filter (fun q => !(q.1 == i) && !(q.1 + 1 == i && q.2.category == 2))
def pm_s2 (lv : pm_L) (i : Nat) (v : Value) : pm_L := (i, v) :: lv.filter (fun q => !(q.1 == i) && (!(q.1 == i + 1) && !(q.1 + 1 == i && q.2.category == 2)))
abbrev pm_F1 : Type := Nat × pm_L × List Value × pm_H
def pm_si (k : Nat) (i pc : Nat) (lv : pm_L) (st : List Value) (w : pm_H) : Option pm_F1 := match st with
  | .int x :: r => if i < pm_n k then some (pc, pm_s1 lv i (.int x), r, w) else none
  | _ => none
def pm_sl (k : Nat) (i pc : Nat) (lv : pm_L) (st : List Value) (w : pm_H) : Option pm_F1 := match st with
  | .long x :: r => if i + 1 < pm_n k then some (pc, pm_s2 lv i (.long x), r, w) else none
  | _ => none
def pm_sa (k : Nat) (i pc : Nat) (lv : pm_L) (st : List Value) (w : pm_H) : Option pm_F1 := match st with
  | .ref x :: r => if i < pm_n k then some (pc, pm_s1 lv i (.ref x), r, w) else none
  | .null :: r => if i < pm_n k then some (pc, pm_s1 lv i .null, r, w) else none
  | _ => none
def pm_ii (f : Int32 → Int32 → Int32) (pc : Nat) (lv : pm_L) (st : List Value) (w : pm_H) : Option pm_F1 := match st with
  | .int y :: .int x :: r => some (pc + 1, lv, .int (f x y) :: r, w)
  | _ => none
def pm_jj (f : Int64 → Int64 → Int64) (pc : Nat) (lv : pm_L) (st : List Value) (w : pm_H) : Option pm_F1 := match st with
  | .long y :: .long x :: r => some (pc + 1, lv, .long (f x y) :: r, w)
  | _ => none
def pm_cz (cnd : ClassFile.Cond) (x y : Int32) : Bool := match cnd with
  | .eq => decide (x = y)
  | .ne => decide (x ≠ y)
  | .lt => decide (x < y)
  | .ge => decide (y ≤ x)
  | .gt => decide (y < x)
  | .le => decide (x ≤ y)
def pm_fit (ty : FieldType) (v : Value) : Bool := match ty, v with
  | .int, .int _ => true
  | .long, .long _ => true
  | .object _, .ref _ => true
  | .object _, .null => true
  | .array _, .ref _ => true
  | .array _, .null => true
  | _, _ => false
def pm_fT (ci k : Nat) : String × String × String × Bool := (pm_cl.getD ci ("", fun _ => ("", "", "", false), 0)).2.1 k
def pm_ft (ci k : Nat) : FieldType := (parseFieldDescriptor (pm_fT ci k).2.2.1).getD .int
def pm_new (t : ArrayType) : Option (Nat × Value) := match t with
  | .int => some (0, .int 0)
  | .long => some (1, .long 0)
  | .byte => some (2, .int 0)
  | .boolean => some (3, .int 0)
  | _ => none
def pm_rd (w : pm_H) (a t : Nat) (j : Int32) : Option Value := match w[a]? with
  | some (1, t', vs) => if t' = t then (if j < 0 then none else vs[j.toNatClampNeg]?) else none
  | _ => none
def pm_wr (w : pm_H) (a t : Nat) (j : Int32) (v : Value) : Option pm_H := match w[a]? with
  | some (1, t', vs) => if t' = t ∧ ¬ j < 0 ∧ j.toNatClampNeg < vs.length then some (w.set a (1, t, vs.set j.toNatClampNeg v)) else none
  | _ => none
def pm_step (k : Nat) (q : pm_Q) (pc : Nat) (lv : pm_L) (st : List Value) (w : pm_H) : Option pm_F1 :=
  match q.1 with
  | .iconst n => some (pc + 1, lv, .int (Int32.ofInt n) :: st, w)
  | .bipush n => some (pc + 2, lv, .int (Int8.ofInt n).toInt32 :: st, w)
  | .sipush n => some (pc + 3, lv, .int (Int16.ofInt n).toInt32 :: st, w)
  | .lconst n => some (pc + 1, lv, .long (Int64.ofNat n) :: st, w)
  | .aconst_null => some (pc + 1, lv, .null :: st, w)
  | .ldc _ => if q.2.2.1 = 0 then some (pc + 2, lv, .int (Int32.ofInt q.2.2.2.2) :: st, w) else some (pc + 2, lv, .retAddr (q.2.2.1 - 1) :: st, w)
  | .ldc_w _ => some (pc + 3, lv, .int (Int32.ofInt q.2.2.2.2) :: st, w)
  | .ldc2_w _ => some (pc + 3, lv, .long (Int64.ofInt q.2.2.2.2) :: st, w)
  | .iload i => (pm_li lv i).map fun v => (pc + 2, lv, v :: st, w)
  | .iload_n i => (pm_li lv i).map fun v => (pc + 1, lv, v :: st, w)
  | .lload i => (pm_ll lv i).map fun v => (pc + 2, lv, v :: st, w)
  | .lload_n i => (pm_ll lv i).map fun v => (pc + 1, lv, v :: st, w)
  | .aload i => (pm_la lv i).map fun v => (pc + 2, lv, v :: st, w)
  | .aload_n i => (pm_la lv i).map fun v => (pc + 1, lv, v :: st, w)
  | .istore i => pm_si k i (pc + 2) lv st w
  | .istore_n i => pm_si k i (pc + 1) lv st w
  | .lstore i => pm_sl k i (pc + 2) lv st w
  | .lstore_n i => pm_sl k i (pc + 1) lv st w
  | .astore i => pm_sa k i (pc + 2) lv st w
  | .astore_n i => pm_sa k i (pc + 1) lv st w
  | .iinc i n => match pm_ld lv i with
    | some (.int x) => if i < pm_n k then some (pc + 3, pm_s1 lv i (.int (x + Int32.ofInt n)), st, w) else none
    | _ => none
  | .iadd => pm_ii (fun x y => x + y) pc lv st w
  | .isub => pm_ii (fun x y => x - y) pc lv st w
  | .imul => pm_ii (fun x y => x * y) pc lv st w
  | .iand => pm_ii (fun x y => x &&& y) pc lv st w
  | .ior => pm_ii (fun x y => x ||| y) pc lv st w
  | .ixor => pm_ii (fun x y => x ^^^ y) pc lv st w
  | .ishl => pm_ii (fun x y => x <<< (y &&& 31)) pc lv st w
  | .ishr => pm_ii (fun x y => x >>> (y &&& 31)) pc lv st w
  | .iushr => pm_ii (fun x y => (x.toUInt32 >>> (y.toUInt32 &&& Int32.toUInt32 31)).toInt32) pc lv st w
  | .idiv => match st with
    | .int y :: .int x :: r => if y = 0 then none else some (pc + 1, lv, .int (x / y) :: r, w)
    | _ => none
  | .irem => match st with
    | .int y :: .int x :: r => if y = 0 then none else some (pc + 1, lv, .int (x - x / y * y) :: r, w)
    | _ => none
  | .ineg => match st with
    | .int x :: r => some (pc + 1, lv, .int (-x) :: r, w)
    | _ => none
  | .ladd => pm_jj (fun x y => x + y) pc lv st w
  | .lsub => pm_jj (fun x y => x - y) pc lv st w
  | .lmul => pm_jj (fun x y => x * y) pc lv st w
  | .land => pm_jj (fun x y => x &&& y) pc lv st w
  | .lor => pm_jj (fun x y => x ||| y) pc lv st w
  | .ldiv => match st with
    | .long y :: .long x :: r => if y = 0 then none else some (pc + 1, lv, .long (x / y) :: r, w)
    | _ => none
  | .lrem => match st with
    | .long y :: .long x :: r => if y = 0 then none else some (pc + 1, lv, .long (x - x / y * y) :: r, w)
    | _ => none
  | .lshl => match st with
    | .int y :: .long x :: r => some (pc + 1, lv, .long (x <<< (y.toInt64 &&& 63)) :: r, w)
    | _ => none
  | .lshr => match st with
    | .int y :: .long x :: r => some (pc + 1, lv, .long (x >>> (y.toInt64 &&& 63)) :: r, w)
    | _ => none
  | .lcmp => match st with
    | .long y :: .long x :: r => some (pc + 1, lv, .int (lg_cmp x y) :: r, w)
    | _ => none
  | .i2l => match st with
    | .int x :: r => some (pc + 1, lv, .long x.toInt64 :: r, w)
    | _ => none
  | .l2i => match st with
    | .long x :: r => some (pc + 1, lv, .int x.toInt32 :: r, w)
    | _ => none
  | .i2b => match st with
    | .int x :: r => some (pc + 1, lv, .int x.toInt8.toInt32 :: r, w)
    | _ => none
  | .i2c => match st with
    | .int x :: r => some (pc + 1, lv, .int (x.toUInt32 % 65536).toInt32 :: r, w)
    | _ => none
  | .dup => match st with
    | v :: r => if v.category = 1 then some (pc + 1, lv, v :: v :: r, w) else none
    | _ => none
  | .pop => match st with
    | v :: r => if v.category = 1 then some (pc + 1, lv, r, w) else none
    | _ => none
  | .dup2 => match st with
    | v :: u :: r => if v.category = 1 ∧ u.category = 1 then some (pc + 1, lv, v :: u :: v :: u :: r, w) else none
    | _ => none
  | .goto _ => some (q.2.2.1, lv, st, w)
  | .ifCond cnd _ => match st with
    | .int x :: r => if pm_cz cnd x 0 then some (q.2.2.1, lv, r, w) else some (pc + 3, lv, r, w)
    | _ => none
  | .if_icmp cnd _ => match st with
    | .int y :: .int x :: r => if pm_cz cnd x y then some (q.2.2.1, lv, r, w) else some (pc + 3, lv, r, w)
    | _ => none
  | .ifnull _ => match st with
    | .null :: r => some (q.2.2.1, lv, r, w)
    | .ref _ :: r => some (pc + 3, lv, r, w)
    | _ => none
  | .ifnonnull _ => match st with
    | .null :: r => some (pc + 3, lv, r, w)
    | .ref _ :: r => some (q.2.2.1, lv, r, w)
    | _ => none
  | .tableswitch dflt lo hi offs => match st with
    | .int x :: r =>
      if x.toInt < lo ∨ hi < x.toInt then (if 0 ≤ (pc : Int) + dflt then some (((pc : Int) + dflt).toNat, lv, r, w) else none)
      else match offs[(x.toInt - lo).toNat]? with
        | some o => if 0 ≤ (pc : Int) + o then some (((pc : Int) + o).toNat, lv, r, w) else none
        | none => none
    | _ => none
  | .getfield _ => match st with
    | .ref a :: r => match w[a]? with
      | some (0, ci, fs) => if ci = q.2.2.1 then (fs[q.2.2.2.1]?).map (fun v => (pc + 3, lv, v :: r, w)) else none
      | _ => none
    | _ => none
  | .putfield _ => match st with
    | v :: .ref a :: r => match w[a]? with
      | some (0, ci, fs) => if ci = q.2.2.1 ∧ q.2.2.2.1 < fs.length ∧ pm_fit (pm_ft q.2.2.1 q.2.2.2.1) v = true then some (pc + 3, lv, r, w.set a (0, ci, fs.set q.2.2.2.1 v)) else none
      | _ => none
    | _ => none
  | .arraylength => match st with
    | .ref a :: r => match w[a]? with
      | some (1, _, vs) => some (pc + 1, lv, .int (Int32.ofNat vs.length) :: r, w)
      | _ => none
    | _ => none
  | .iaload => match st with
    | .int j :: .ref a :: r => (pm_rd w a 0 j).map fun v => (pc + 1, lv, v :: r, w)
    | _ => none
  | .laload => match st with
    | .int j :: .ref a :: r => (pm_rd w a 1 j).map fun v => (pc + 1, lv, v :: r, w)
    | _ => none
  | .baload => match st with
    | .int j :: .ref a :: r => match w[a]? with
      | some (1, 2, _) => (pm_rd w a 2 j).map fun v => (pc + 1, lv, v :: r, w)
      | _ => (pm_rd w a 3 j).map fun v => (pc + 1, lv, v :: r, w)
    | _ => none
  | .aaload => match st with
    | .int j :: .ref a :: r => match w[a]? with
      | some (1, t, _) => if 4 ≤ t then (pm_rd w a t j).map fun v => (pc + 1, lv, v :: r, w) else none
      | _ => none
    | _ => none
  | .iastore => match st with
    | .int x :: .int j :: .ref a :: r => (pm_wr w a 0 j (.int x)).map fun w' => (pc + 1, lv, r, w')
    | _ => none
  | .lastore => match st with
    | .long x :: .int j :: .ref a :: r => (pm_wr w a 1 j (.long x)).map fun w' => (pc + 1, lv, r, w')
    | _ => none
  | .bastore => match st with
    | .int x :: .int j :: .ref a :: r => match w[a]? with
      | some (1, 2, _) => (pm_wr w a 2 j (narrow .byte (.int x))).map fun w' => (pc + 1, lv, r, w')
      | _ => (pm_wr w a 3 j (narrow .boolean (.int x))).map fun w' => (pc + 1, lv, r, w')
    | _ => none
  | .aastore => match st with
    | .ref v :: .int j :: .ref a :: r => match w[v]? with
      | some (0, ci, _) => (pm_wr w a (4 + ci) j (.ref v)).map fun w' => (pc + 1, lv, r, w')
      | _ => none
    | _ => none
  | .new _ => match pm_D[q.2.2.1]? with
    | some fs => some (pc + 3, lv, .ref w.length :: st, w ++ [(0, q.2.2.1, fs)])
    | none => none
  | .newarray t => match st with
    | .int n :: r => match pm_new t with
      | some (u, z) => if ¬ n < 0 ∧ n.toNatClampNeg ≤ 65536 then some (pc + 2, lv, .ref w.length :: r, w ++ [(1, u, List.replicate n.toNatClampNeg z)]) else none
      | none => none
    | _ => none
  | .anewarray _ => match st with
    | .int n :: r => if ¬ n < 0 ∧ n.toNatClampNeg ≤ 65536 ∧ q.2.2.1 < 13 then some (pc + 3, lv, .ref w.length :: r, w ++ [(1, 4 + q.2.2.1, List.replicate n.toNatClampNeg .null)]) else none
    | _ => none
  | _ => none
def pm_cs (st : List Value) : Nat := (st.map fun v => v.category).sum
def pm_cpy (vs us : List Value) (sp dp n : Nat) : List Value := us.take dp ++ ((vs.drop sp).take n ++ us.drop (dp + n))
def pm_Sl : List Nat := pm_Sb.map List.length
def pm_ch (i j : Nat) : Int32 := (((pm_Sb.getD i []).getD j 0 &&& 255).toUInt32 % 65536).toInt32
/-- what the members of the library do: 1000 Object.<init>, 1001, 1002 max, min of ints, 1003, 1004 of longs, 1005 arraycopy -/
def pm_lib (t : Nat) (st : List Value) (w : pm_H) : Option (List Value × pm_H) := match t, st with
  | 1000, .ref _ :: r => some (r, w)
  | 1001, .int y :: .int x :: r => some (.int (if x < y then y else x) :: r, w)
  | 1002, .int y :: .int x :: r => some (.int (if y < x then y else x) :: r, w)
  | 1003, .long y :: .long x :: r => some (.long (if y < x then x else y) :: r, w)
  | 1004, .long y :: .long x :: r => some (.long (if y < x then y else x) :: r, w)
  | 1005, .int n :: .int dp :: .ref b :: .int sp :: .ref a :: r => match w[a]?, w[b]? with
    | some (1, 0, vs), some (1, 0, us) => if a ≠ b ∧ ¬ sp < 0 ∧ ¬ dp < 0 ∧ ¬ n < 0 ∧ sp.toNatClampNeg + n.toNatClampNeg ≤ vs.length ∧ dp.toNatClampNeg + n.toNatClampNeg ≤ us.length then some (r, w.set b (1, 0, pm_cpy vs us sp.toNatClampNeg dp.toNatClampNeg n.toNatClampNeg)) else none
    | _, _ => none
  | 1006, .retAddr i :: r => if i < 7 then some (.int (nI (pm_Sl.getD i 0)) :: r, w) else none
  | 1007, .int j :: .retAddr i :: r => if i < 7 ∧ ¬ j < 0 ∧ j.toNatClampNeg < pm_Sl.getD i 0 then some (.int (pm_ch i j.toNatClampNeg) :: r, w) else none
  | _, _ => none
def pm_rb (r : Option FieldType) (v : Int32) : Bool := match r with
  | some .int => true
  | some .boolean => v == 0 || v == 1
  | _ => false
/-- the receiver is an object of the method's class -/
def pm_rcv (t : Nat) (as : List Value) (w : pm_H) : Bool := match as with
  | .ref a :: _ => match w[a]? with
    | some (0, ci, _) => ci == pm_o t
    | _ => false
  | _ => false
def pm_inv (i : Instr) : Bool := match i with
  | .invokevirtual _ => true
  | .invokespecial _ => true
  | .invokestatic _ => true
  | _ => false
def pm_na (t : Nat) : Nat := if pm_k t = 1 then pm_a t else pm_a t + 1
def pm_cok (t : Nat) (st : List Value) (w : pm_H) : Bool := decide (pm_na t ≤ st.length) && (decide (pm_cs (st.drop (pm_na t)) ≤ 8) && (decide ((lg_sl (st.take (pm_na t)).reverse).length ≤ pm_n t) && (pm_k t == 1 || pm_rcv t (st.take (pm_na t)).reverse w)))
def pm_ret (k : Nat) (i : Instr) (st : List Value) : Option (Option Value) := match i, st with
  | .ireturn, [.int v] => if pm_rb (pm_r k) v then some (some (.int v)) else none
  | .lreturn, [.long v] => if pm_r k = some .long then some (some (.long v)) else none
  | .areturn, [.ref v] => some (some (.ref v))
  | .areturn, [.null] => some (some .null)
  | .return_, [] => if pm_r k = none then some none else none
  | _, _ => none
def pm_isr (i : Instr) : Bool := match i with
  | .ireturn => true
  | .lreturn => true
  | .areturn => true
  | .return_ => true
  | _ => false
/-- f: fuel; d: how many frames may stand above this one -/
def pm_run : Nat → Nat → Nat → Nat → pm_L → List Value → pm_H → Option (Option Value × pm_H)
  | 0, _, _, _, _, _, _ => none
  | f + 1, d, k, pc, lv, st, w =>
    match pm_I k pc with
    | none => none
    | some q =>
      if pm_isr q.1 = true then (pm_ret k q.1 st).map (fun r => (r, w))
      else if pm_inv q.1 = true then
        match d with
        | 0 => none
        | d' + 1 =>
          if 1000 ≤ q.2.2.1 then
            match pm_lib q.2.2.1 st w with
            | some (st', w') => if pm_cs st' ≤ 8 ∧ 6 ≤ d' + 1 then pm_run f (d' + 1) k (pc + 3) lv st' w' else none
            | none => none
          else if pm_cok q.2.2.1 st w = true then
            match pm_run f d' q.2.2.1 0 (lv_args 0 (st.take (pm_na q.2.2.1)).reverse) [] w with
            | some (r, w') => pm_run f (d' + 1) k (pc + 3) lv (r.toList ++ st.drop (pm_na q.2.2.1)) w'
            | none => none
          else none
      else match pm_step k q pc lv st w with
        | some x => pm_run f d k x.1 x.2.1 x.2.2.1 x.2.2.2
        | none => none
def pm_sz (w : pm_H) : Nat := (w.map fun c => c.2.2.length).sum
/-! what the tables say of an instruction of method k at a place -/
def pm_len (i : Instr) (n : Nat) : Nat := match i with
  | .bipush _ => 2
  | .sipush _ => 3
  | .ldc _ => 2
  | .ldc_w _ => 3
  | .ldc2_w _ => 3
  | .iload _ => 2
  | .lload _ => 2
  | .aload _ => 2
  | .istore _ => 2
  | .lstore _ => 2
  | .astore _ => 2
  | .iinc _ _ => 3
  | .goto _ => 3
  | .ifCond _ _ => 3
  | .if_icmp _ _ => 3
  | .ifnull _ => 3
  | .ifnonnull _ => 3
  | .tableswitch _ _ _ _ => n
  | .getfield _ => 3
  | .putfield _ => 3
  | .new _ => 3
  | .newarray _ => 2
  | .anewarray _ => 3
  | .invokevirtual _ => 3
  | .invokespecial _ => 3
  | .invokestatic _ => 3
  | _ => 1
def pm_lnk (k : Nat) (pc : Nat) (q : pm_Q) : Bool := match q.1 with
  | .goto o => decide ((pc : Int) + o = (q.2.2.1 : Int))
  | .ifCond _ o => decide ((pc : Int) + o = (q.2.2.1 : Int))
  | .if_icmp _ o => decide ((pc : Int) + o = (q.2.2.1 : Int))
  | .ifnull o => decide ((pc : Int) + o = (q.2.2.1 : Int))
  | .ifnonnull o => decide ((pc : Int) + o = (q.2.2.1 : Int))
  | .getfield i => pm_F.any fun x => x.1 == pm_o k && (x.2.1 == i && (x.2.2.1 == q.2.2.1 && x.2.2.2.1 == q.2.2.2.1))
  | .putfield i => (pm_F.any fun x => x.1 == pm_o k && (x.2.1 == i && (x.2.2.1 == q.2.2.1 && x.2.2.2.1 == q.2.2.2.1))) && ((pm_fT q.2.2.1 q.2.2.2.1).2.2.2 == false || (pm_k k == 2 && q.2.2.1 == pm_o k))
  | .invokevirtual i => pm_G.any fun x => x.1 == pm_o k && (x.2.1 == i && (x.2.2.1 == q.2.2.2.1 && (x.2.2.2.1 == q.2.2.1 && (x.2.2.1 == 0 || (x.2.2.1 == 9 && decide (1006 ≤ x.2.2.2.1))))))
  | .invokespecial i => pm_G.any fun x => x.1 == pm_o k && (x.2.1 == i && (x.2.2.1 == q.2.2.2.1 && (x.2.2.2.1 == q.2.2.1 && (x.2.2.1 == 2 || x.2.2.1 == 3 || (x.2.2.1 == 9 && x.2.2.2.1 == 1000)))))
  | .invokestatic i => pm_G.any fun x => x.1 == pm_o k && (x.2.1 == i && (x.2.2.1 == q.2.2.2.1 && (x.2.2.2.1 == q.2.2.1 && (x.2.2.1 == 1 || x.2.2.1 == 4 || (x.2.2.1 == 9 && (decide (1001 ≤ x.2.2.2.1) && decide (x.2.2.2.1 ≤ 1005)))))))
  | .new i => pm_K.any fun x => x.1 == pm_o k && (x.2.1 == i && x.2.2.1 == q.2.2.1)
  | .anewarray i => pm_K.any fun x => x.1 == pm_o k && (x.2.1 == i && x.2.2.1 == q.2.2.1)
  | .ldc i => (q.2.2.1 == 0 && (pm_N.any fun x => x.1 == pm_o k && (x.2.1 == i && x.2.2.1 == q.2.2.2.2))) || (pm_S.any fun x => x.1 == pm_o k && (x.2.1 == i && x.2.2.1 + 1 == q.2.2.1))
  | .ldc_w i => pm_N.any fun x => x.1 == pm_o k && (x.2.1 == i && x.2.2.1 == q.2.2.2.2)
  | .ldc2_w i => pm_J.any fun x => x.1 == pm_o k && (x.2.1 == i && x.2.2.1 == q.2.2.2.2)
  | _ => true
def pm_ck (k : Nat) (x : Nat × pm_Q) : Bool := decide (decode (pm_c k) x.1 = .ok (x.2.1, x.2.2.1)) && (x.2.2.1 == pm_len x.2.1 x.2.2.1 && pm_lnk k x.1 x.2)
