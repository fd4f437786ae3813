/-! ===== the interpreter over the abstract heap ===== -/
/-- place, instruction, length, a, b, word, constant -/
abbrev iE : Type := Nat × Instr × Nat × Nat × Nat × Nat × Int
abbrev iI : Type := Instr × Nat × Nat × Nat × Nat × Int
/-- class, name, code, locals, answer, rows -/
abbrev iM : Type := String × MethodName × ByteArray × Nat × Option FieldType × List iE
abbrev i_cfg : Type := Nat × List Value × List Value × iH
def i_at : List iE → Nat → Option iI
  | [], _ => none
  | e :: t, pc => if e.1 = pc then some e.2 else i_at t pc
def i_ty (a b : Nat) : FieldType := match a with
  | 0 => tyX0 b
  | 1 => tyX1 b
  | 2 => tyX3 b
  | 3 => tyX4 b
  | 4 => tyX5 b
  | 5 => tyX6 b
  | 6 => tyX7 b
  | 7 => tyX8 b
  | 8 => tyX9 b
  | 9 => tyX10 b
  | 10 => tyX11 b
  | _ => tyX12 b
def i_okf (ty : FieldType) (v : Value) : Bool := match ty, v with
  | .int, .int _ => true
  | .long, .long _ => true
  | .boolean, .int x => x == 0 || x == 1
  | .object _, .ref _ => true
  | .object _, .null => true
  | .array _, .ref _ => true
  | .array _, .null => true
  | _, _ => false
/-- the String constants: class, entry, text, signs -/
def i_strs : List (String × Nat × String × List Int32) := [("SpoonCourt$CourtReader", 52, "court thing holds person quarrel", [99, 111, 117, 114, 116, 32, 116, 104, 105, 110, 103, 32, 104, 111, 108, 100, 115, 32, 112, 101, 114, 115, 111, 110, 32, 113, 117, 97, 114, 114, 101, 108]), ("SpoonCourt$RuleReader", 94, "hold", [104, 111, 108, 100]), ("SpoonCourt$RuleReader", 133, "thing rank clock usual last times titles due knights most people hour", [116, 104, 105, 110, 103, 32, 114, 97, 110, 107, 32, 99, 108, 111, 99, 107, 32, 117, 115, 117, 97, 108, 32, 108, 97, 115, 116, 32, 116, 105, 109, 101, 115, 32, 116, 105, 116, 108, 101, 115, 32, 100, 117, 101, 32, 107, 110, 105, 103, 104, 116, 115, 32, 109, 111, 115, 116, 32, 112, 101, 111, 112, 108, 101, 32, 104, 111, 117, 114]), ("SpoonCourt$RuleReader", 52, "if", [105, 102]), ("SpoonCourt$RuleReader", 113, "not", [110, 111, 116]), ("SpoonCourt$RuleReader", 106, "and", [97, 110, 100]), ("SpoonCourt$RuleReader", 111, "or", [111, 114]), ("SpoonCourtModel", 261, "court", [99, 111, 117, 114, 116]), ("SpoonCourtModel", 142, "thing", [116, 104, 105, 110, 103]), ("SpoonCourtModel", 263, "holds", [104, 111, 108, 100, 115]), ("SpoonCourtModel", 265, "person", [112, 101, 114, 115, 111, 110]), ("SpoonCourtModel", 267, "quarrel", [113, 117, 97, 114, 114, 101, 108]), ("SpoonCourtModel", 308, "hold", [104, 111, 108, 100]), ("SpoonCourtModel", 144, "rank", [114, 97, 110, 107]), ("SpoonCourtModel", 145, "clock", [99, 108, 111, 99, 107]), ("SpoonCourtModel", 147, "usual", [117, 115, 117, 97, 108]), ("SpoonCourtModel", 149, "last", [108, 97, 115, 116]), ("SpoonCourtModel", 151, "times", [116, 105, 109, 101, 115]), ("SpoonCourtModel", 152, "titles", [116, 105, 116, 108, 101, 115]), ("SpoonCourtModel", 153, "due", [100, 117, 101]), ("SpoonCourtModel", 155, "knights", [107, 110, 105, 103, 104, 116, 115]), ("SpoonCourtModel", 157, "most", [109, 111, 115, 116]), ("SpoonCourtModel", 159, "people", [112, 101, 111, 112, 108, 101]), ("SpoonCourtModel", 161, "hour", [104, 111, 117, 114]), ("SpoonCourtModel", 310, "if", [105, 102]), ("SpoonCourtModel", 243, "not", [110, 111, 116]), ("SpoonCourtModel", 257, "and", [97, 110, 100]), ("SpoonCourtModel", 259, "or", [111, 114])]
def i_slen (k : Nat) : Nat := (i_strs.getD k ("", 0, "", [])).2.2.2.length
def i_schr (k j : Nat) : Int32 := (i_strs.getD k ("", 0, "", [])).2.2.2.getD j 0
def i_op2 (f : Int32 → Int32 → Int32) (pc : Nat) (loc st : List Value) (h : iH) : Option i_cfg := match st with
  | .int y :: .int x :: r => some (pc + 1, loc, .int (f x y) :: r, h)
  | _ => none
def i_op2z (f : Int32 → Int32 → Int32) (pc : Nat) (loc st : List Value) (h : iH) : Option i_cfg := match st with
  | .int y :: .int x :: r => if y = 0 then none else some (pc + 1, loc, .int (f x y) :: r, h)
  | _ => none
def i_opl (f : Int64 → Int64 → Int64) (pc : Nat) (loc st : List Value) (h : iH) : Option i_cfg := match st with
  | .long y :: .long x :: r => some (pc + 1, loc, .long (f x y) :: r, h)
  | _ => none
def i_oplz (f : Int64 → Int64 → Int64) (pc : Nat) (loc st : List Value) (h : iH) : Option i_cfg := match st with
  | .long y :: .long x :: r => if y = 0 then none else some (pc + 1, loc, .long (f x y) :: r, h)
  | _ => none
def i_ldi (n i pc : Nat) (loc st : List Value) (h : iH) : Option i_cfg := match loc[i]? with
  | some (.int x) => some (pc + n, loc, .int x :: st, h)
  | _ => none
def i_ldl (n i pc : Nat) (loc st : List Value) (h : iH) : Option i_cfg := match loc[i]? with
  | some (.long x) => some (pc + n, loc, .long x :: st, h)
  | _ => none
def i_lda (n i pc : Nat) (loc st : List Value) (h : iH) : Option i_cfg := match loc[i]? with
  | some (.ref x) => some (pc + n, loc, .ref x :: st, h)
  | some .null => some (pc + n, loc, .null :: st, h)
  | _ => none
def i_sti (n i pc : Nat) (loc st : List Value) (h : iH) : Option i_cfg := match st with
  | .int x :: r => if i < loc.length then some (pc + n, i_st1 loc i (.int x), r, h) else none
  | _ => none
def i_stl (n i pc : Nat) (loc st : List Value) (h : iH) : Option i_cfg := match st with
  | .long x :: r => if i + 1 < loc.length then some (pc + n, i_st2 loc i (.long x), r, h) else none
  | _ => none
def i_sta (n i pc : Nat) (loc st : List Value) (h : iH) : Option i_cfg := match st with
  | .ref x :: r => if i < loc.length then some (pc + n, i_st1 loc i (.ref x), r, h) else none
  | .null :: r => if i < loc.length then some (pc + n, i_st1 loc i .null, r, h) else none
  | _ => none
def i_ifc (P : Int32 → Prop) [DecidablePred P] (a pc : Nat) (loc st : List Value) (h : iH) : Option i_cfg := match st with
  | .int x :: r => if P x then some (a, loc, r, h) else some (pc + 3, loc, r, h)
  | _ => none
def i_icm (P : Int32 → Int32 → Prop) [∀ x y, Decidable (P x y)] (a pc : Nat) (loc st : List Value) (h : iH) : Option i_cfg := match st with
  | .int y :: .int x :: r => if P x y then some (a, loc, r, h) else some (pc + 3, loc, r, h)
  | _ => none
def i_jmp (pc : Nat) (off : Int) : Option Nat := if 0 ≤ (pc : Int) + off then some ((pc : Int) + off).toNat else none
def i_ix (i : Int32) (n : Nat) : Prop := ¬ i < 0 ∧ i.toNatClampNeg < n
def i_cpy (pc : Nat) (loc st : List Value) (h : iH) : Option i_cfg := match st with
  | .int n :: .int dp :: .ref j :: .int sp :: .ref i :: r => match h[i]?, h[j]? with
    | some (.inl (.int, n0, .inl f)), some (.inl (.int, n1, .inl g)) =>
      if ¬ sp < 0 ∧ ¬ dp < 0 ∧ ¬ n < 0 ∧ sp.toNatClampNeg + n.toNatClampNeg ≤ n0 ∧ dp.toNatClampNeg + n.toNatClampNeg ≤ n1 ∧ (r.map fun v => v.category).sum ≤ 8 then
        some (pc + 3, loc, r, h.set j (.inl (.int, n1, .inl (va_cpy f g sp.toNatClampNeg dp.toNatClampNeg n.toNatClampNeg))))
      else none
    | _, _ => none
  | _ => none
/-- a call that is done at once: Object's constructor, Math, arraycopy, String's length and charAt -/
def i_prim (a pc : Nat) (loc st : List Value) (h : iH) : Option i_cfg := match a with
  | 1000 => match st with
    | .ref _ :: r => if (r.map fun v => v.category).sum ≤ 8 then some (pc + 3, loc, r, h) else none
    | _ => none
  | 1001 => match st with
    | .int y :: .int x :: r => if (r.map fun v => v.category).sum ≤ 8 then some (pc + 3, loc, .int (if x < y then y else x) :: r, h) else none
    | _ => none
  | 1002 => match st with
    | .int y :: .int x :: r => if (r.map fun v => v.category).sum ≤ 8 then some (pc + 3, loc, .int (if y < x then y else x) :: r, h) else none
    | _ => none
  | 1003 => i_cpy pc loc st h
  | 1004 => match st with
    | .ref i :: r => if i_SB ≤ i ∧ i < i_SB + 28 ∧ (r.map fun v => v.category).sum ≤ 8 then some (pc + 3, loc, .int (Int32.ofNat (i_slen (i - i_SB))) :: r, h) else none
    | _ => none
  | 1005 => match st with
    | .int k :: .ref i :: r => if i_SB ≤ i ∧ i < i_SB + 28 ∧ (r.map fun v => v.category).sum ≤ 8 ∧ ¬ k < 0 ∧ k.toNatClampNeg < i_slen (i - i_SB) then some (pc + 3, loc, .int (i_schr (i - i_SB) k.toNatClampNeg) :: r, h) else none
    | _ => none
  | _ => none
def i_getf (a b pc : Nat) (loc st : List Value) (h : iH) : Option i_cfg := match st with
  | .ref i :: r => match h[i]? with
    | some (.inr q) => if q.1 = a then match q.2[b]? with
        | some v => some (pc + 3, loc, v :: r, h)
        | none => none
      else none
    | _ => none
  | _ => none
def i_putf (a b pc : Nat) (loc st : List Value) (h : iH) : Option i_cfg := match st with
  | v :: .ref i :: r => match h[i]? with
    | some (.inr q) => if q.1 = a ∧ i_okf (i_ty a b) v = true ∧ b < q.2.length then some (pc + 3, loc, r, h.set i (.inr (q.1, q.2.set b v))) else none
    | _ => none
  | _ => none
def i_ald (pc : Nat) (loc st : List Value) (h : iH) (ok : FieldType → Bool) : Option i_cfg := match st with
  | .int j :: .ref i :: r => match h[i]? with
    | some (.inl (ty, n, .inl f)) => if ok ty = true ∧ ¬ j < 0 ∧ j.toNatClampNeg < n then some (pc + 1, loc, .int (f j.toNatClampNeg) :: r, h) else none
    | _ => none
  | _ => none
def i_ast (pc : Nat) (loc st : List Value) (h : iH) (ok : FieldType → Bool) : Option i_cfg := match st with
  | .int x :: .int j :: .ref i :: r => match h[i]? with
    | some (.inl (ty, n, .inl f)) => if ok ty = true ∧ ¬ j < 0 ∧ j.toNatClampNeg < n then some (pc + 1, loc, r, h.set i (.inl (ty, n, .inl (upd f j.toNatClampNeg (vp_nar ty x))))) else none
    | _ => none
  | _ => none
def i_lald (pc : Nat) (loc st : List Value) (h : iH) : Option i_cfg := match st with
  | .int j :: .ref i :: r => match h[i]? with
    | some (.inl (.long, n, .inr (.inl f))) => if ¬ j < 0 ∧ j.toNatClampNeg < n then some (pc + 1, loc, .long (f j.toNatClampNeg) :: r, h) else none
    | _ => none
  | _ => none
def i_last (pc : Nat) (loc st : List Value) (h : iH) : Option i_cfg := match st with
  | .long x :: .int j :: .ref i :: r => match h[i]? with
    | some (.inl (.long, n, .inr (.inl f))) => if ¬ j < 0 ∧ j.toNatClampNeg < n then some (pc + 1, loc, r, h.set i (.inl (.long, n, .inr (.inl (vp_updL f j.toNatClampNeg x))))) else none
    | _ => none
  | _ => none
def i_isq (ty : FieldType) : Bool := match ty with
  | .object _ => true
  | .array _ => true
  | _ => false
def i_aald (pc : Nat) (loc st : List Value) (h : iH) : Option i_cfg := match st with
  | .int j :: .ref i :: r => match h[i]? with
    | some (.inl (ty, n, .inr (.inr (.inr (.inr f))))) => if i_isq ty = true ∧ ¬ j < 0 ∧ j.toNatClampNeg < n then some (pc + 1, loc, va_rf (f j.toNatClampNeg) :: r, h) else none
    | _ => none
  | _ => none
def i_aast (pc : Nat) (loc st : List Value) (h : iH) : Option i_cfg := match st with
  | .ref k :: .int j :: .ref i :: r => match h[i]?, h[k]? with
    | some (.inl (.object C, n, .inr (.inr (.inr (.inr f))))), some (.inr q) => if (vwCl[q.1]?).map (fun z => z.1) = some C ∧ ¬ j < 0 ∧ j.toNatClampNeg < n then some (pc + 1, loc, r, h.set i (.inl (.object C, n, .inr (.inr (.inr (.inr (va_up f j.toNatClampNeg (some k)))))))) else none
    | _, _ => none
  | _ => none
def i_alen (pc : Nat) (loc st : List Value) (h : iH) : Option i_cfg := match st with
  | .ref i :: r => match h[i]? with
    | some (.inl q) => some (pc + 1, loc, .int (Int32.ofNat q.2.1) :: r, h)
    | _ => none
  | _ => none
def i_dup (pc : Nat) (loc st : List Value) (h : iH) : Option i_cfg := match st with
  | .int x :: r => some (pc + 1, loc, .int x :: .int x :: r, h)
  | .ref x :: r => some (pc + 1, loc, .ref x :: .ref x :: r, h)
  | .null :: r => some (pc + 1, loc, .null :: .null :: r, h)
  | _ => none
def i_dup2 (pc : Nat) (loc st : List Value) (h : iH) : Option i_cfg := match st with
  | .int x :: .ref y :: r => some (pc + 1, loc, .int x :: .ref y :: .int x :: .ref y :: r, h)
  | _ => none
def i_pop (pc : Nat) (loc st : List Value) (h : iH) : Option i_cfg := match st with
  | .int _ :: r => some (pc + 1, loc, r, h)
  | .ref _ :: r => some (pc + 1, loc, r, h)
  | .null :: r => some (pc + 1, loc, r, h)
  | _ => none
def i_isp (ty : FieldType) : Bool := match ty with
  | .byte => true
  | .boolean => true
  | _ => false
def i_isi (ty : FieldType) : Bool := match ty with
  | .int => true
  | _ => false
/-- a step that is no call, makes nothing, and goes on -/
def i_s (q : iI) (pc : Nat) (loc st : List Value) (h : iH) : Option i_cfg := match q with
  | (ins, _, a, b, _, z) => match ins with
    | .aconst_null => some (pc + 1, loc, .null :: st, h)
    | .iconst n => some (pc + 1, loc, .int (Int32.ofInt n) :: st, h)
    | .bipush n => some (pc + 2, loc, .int (Int8.ofInt n).toInt32 :: st, h)
    | .sipush n => some (pc + 3, loc, .int (Int16.ofInt n).toInt32 :: st, h)
    | .lconst n => some (pc + 1, loc, .long (Int64.ofNat n.val) :: st, h)
    | .ldc _ => if a = 1 then some (pc + 2, loc, .ref (i_SB + b) :: st, h) else some (pc + 2, loc, .int (Int32.ofInt z) :: st, h)
    | .ldc_w _ => if a = 1 then some (pc + 3, loc, .ref (i_SB + b) :: st, h) else some (pc + 3, loc, .int (Int32.ofInt z) :: st, h)
    | .ldc2_w _ => some (pc + 3, loc, .long (Int64.ofInt z) :: st, h)
    | .iload i => i_ldi 2 i pc loc st h
    | .iload_n i => i_ldi 1 i.val pc loc st h
    | .lload i => i_ldl 2 i pc loc st h
    | .lload_n i => i_ldl 1 i.val pc loc st h
    | .aload i => i_lda 2 i pc loc st h
    | .aload_n i => i_lda 1 i.val pc loc st h
    | .istore i => i_sti 2 i pc loc st h
    | .istore_n i => i_sti 1 i.val pc loc st h
    | .lstore i => i_stl 2 i pc loc st h
    | .lstore_n i => i_stl 1 i.val pc loc st h
    | .astore i => i_sta 2 i pc loc st h
    | .astore_n i => i_sta 1 i.val pc loc st h
    | .iinc i n => match loc[i]? with
      | some (.int x) => some (pc + 3, i_st1 loc i (.int (x + Int32.ofInt n)), st, h)
      | _ => none
    | .iadd => i_op2 (fun x y => x + y) pc loc st h
    | .isub => i_op2 (fun x y => x - y) pc loc st h
    | .imul => i_op2 (fun x y => x * y) pc loc st h
    | .iand => i_op2 (fun x y => x &&& y) pc loc st h
    | .ior => i_op2 (fun x y => x ||| y) pc loc st h
    | .ixor => i_op2 (fun x y => x ^^^ y) pc loc st h
    | .ishl => i_op2 (fun x y => x <<< (y &&& 31)) pc loc st h
    | .ishr => i_op2 (fun x y => x >>> (y &&& 31)) pc loc st h
    | .iushr => i_op2 (fun x y => (x.toUInt32 >>> (y.toUInt32 &&& Int32.toUInt32 31)).toInt32) pc loc st h
    | .idiv => i_op2z (fun x y => x / y) pc loc st h
    | .irem => i_op2z (fun x y => x - x / y * y) pc loc st h
    | .ladd => i_opl (fun x y => x + y) pc loc st h
    | .lsub => i_opl (fun x y => x - y) pc loc st h
    | .lmul => i_opl (fun x y => x * y) pc loc st h
    | .land => i_opl (fun x y => x &&& y) pc loc st h
    | .lor => i_opl (fun x y => x ||| y) pc loc st h
    | .ldiv => i_oplz (fun x y => x / y) pc loc st h
    | .lrem => i_oplz (fun x y => x - x / y * y) pc loc st h
    | .lcmp => match st with
      | .long y :: .long x :: r => some (pc + 1, loc, .int (lg_cmp x y) :: r, h)
      | _ => none
    | .i2l => match st with
      | .int x :: r => some (pc + 1, loc, .long x.toInt64 :: r, h)
      | _ => none
    | .l2i => match st with
      | .long x :: r => some (pc + 1, loc, .int x.toInt32 :: r, h)
      | _ => none
    | .i2b => match st with
      | .int x :: r => some (pc + 1, loc, .int x.toInt8.toInt32 :: r, h)
      | _ => none
    | .dup => i_dup pc loc st h
    | .dup2 => i_dup2 pc loc st h
    | .pop => i_pop pc loc st h
    | .goto _ => some (a, loc, st, h)
    | .ifCond c _ => match c with
      | .eq => i_ifc (fun x => x = 0) a pc loc st h
      | .ne => i_ifc (fun x => ¬ x = 0) a pc loc st h
      | .lt => i_ifc (fun x => x < 0) a pc loc st h
      | .ge => i_ifc (fun x => 0 ≤ x) a pc loc st h
      | .gt => i_ifc (fun x => 0 < x) a pc loc st h
      | .le => i_ifc (fun x => x ≤ 0) a pc loc st h
    | .if_icmp c _ => match c with
      | .eq => i_icm (fun x y => x = y) a pc loc st h
      | .ne => i_icm (fun x y => ¬ x = y) a pc loc st h
      | .lt => i_icm (fun x y => x < y) a pc loc st h
      | .ge => i_icm (fun x y => y ≤ x) a pc loc st h
      | .gt => i_icm (fun x y => y < x) a pc loc st h
      | .le => i_icm (fun x y => x ≤ y) a pc loc st h
    | .ifnonnull _ => match st with
      | .ref _ :: r => some (a, loc, r, h)
      | .null :: r => some (pc + 3, loc, r, h)
      | _ => none
    | .tableswitch d lo hi offs => match st with
      | .int x :: r => if x.toInt < lo ∨ hi < x.toInt then (i_jmp pc d).map (fun t => (t, loc, r, h)) else match offs[(x.toInt - lo).toNat]? with
        | some off => (i_jmp pc off).map (fun t => (t, loc, r, h))
        | none => none
      | _ => none
    | .lookupswitch d ps => match st with
      | .int x :: r => if (ps.toList.zip (ps.toList.drop 1)).all (fun (a, next) => a.1 < next.1) = true then (i_jmp pc (Op.lookupswitch.offset ps.toList d x.toInt)).map (fun t => (t, loc, r, h)) else none
      | _ => none
    | .getfield _ => i_getf a b pc loc st h
    | .putfield _ => i_putf a b pc loc st h
    | .iaload => i_ald pc loc st h i_isi
    | .baload => i_ald pc loc st h i_isp
    | .iastore => i_ast pc loc st h i_isi
    | .bastore => i_ast pc loc st h i_isp
    | .laload => i_lald pc loc st h
    | .lastore => i_last pc loc st h
    | .aaload => i_aald pc loc st h
    | .aastore => i_aast pc loc st h
    | .arraylength => i_alen pc loc st h
    | .invokestatic _ => i_prim a pc loc st h
    | .invokevirtual _ => i_prim a pc loc st h
    | .invokespecial _ => i_prim a pc loc st h
    | _ => none
