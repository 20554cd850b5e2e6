/-! what is read off the class files: each op is what the tables say; words by their places. By the kernel. -/
def mm_dc (k pc : Nat) (i : Instr) (len : Nat) : Bool := decide (decode (mm_b k) pc = .ok (i, len))
/-- a word of the tables, at its place, that the warm tables keep -/
def mm_w (i : Nat) (w : Cond) : Bool := decide (lw_tbl[i]? = some w) && w.onTables && w.keepsOver
def mm_cw (k : Nat) : Cond := if (mm_hh k).isEmpty then .code (mm_y k) (mm_b k) (mm_maxL k) (mm_ret k) else .codeWith (mm_y k) (mm_b k) (mm_maxL k) (mm_ret k) (mm_hh k)
def mm_ix (k : Nat) : Nat × Nat × Nat × Nat := mm_iL.getD k (0, 0, 0, 0)
/-- a method that may be called -/
def mm_fm (j : Nat) : Bool :=
  decide (plainName (mm_y j).cls = true) && decide ((mm_y j).cls ≠ "java/lang/invoke/MethodHandle") && decide ((mm_y j).cls ≠ "java/lang/invoke/VarHandle") && decide ((mm_y j).cls = mm_rn (mm_own j)) && decide (mm_own j < 8) &&
  decide ((parseMethodDescriptor (mm_y j).desc).map (fun d => d.parameters.length) = some (mm_np j)) && decide (mm_np j + (if mm_stt j then 0 else 1) ≤ mm_maxL j) &&
  mm_w (mm_ix j).1 (mm_cw j) && goodWord (mm_cw j) &&
  (if mm_stt j then mm_w (mm_ix j).2.1 (.static (mm_y j)) else (mm_w (mm_ix j).2.1 (.instanceMethod (mm_y j)) && mm_w (mm_ix j).2.2.1 (.selects (mm_rn (mm_own j)) (mm_y j) (mm_y j)) && decide (mm_own j < 6))) &&
  mm_w (mm_ix j).2.2.2 (.initialized (mm_rn (mm_own j)))
def mm_lk (k j x : Nat) : Bool := match mm_lL.lookup (mm_own k, x) with
  | some (true, j', w) => decide (j' = j) && decide (lw_tbl[w]? = some (.methodLinkNest (mm_rn (mm_own k)) x (mm_y j) "WareHall")) && (mm_hh j).isEmpty
  | some (false, j', w) => decide (j' = j) && mm_w w (.methodLink (mm_rn (mm_own k)) x (mm_y j))
  | none => false
def mm_rm (k j : Nat) : Bool := decide (mm_fr j + 1 ≤ mm_fr k) && decide (8 + (mm_maxL j + 11) + mm_lo j ≤ mm_lo k)
def mm_bk (k j x : Nat) : Bool := decide (1 ≤ mm_fr k) && decide (21 ≤ mm_lo k) && (match mm_lL.lookup (mm_own k, x) with
  | some (false, j', w) => decide (j' = j) && (
    if j = 1000 then mm_w w (.methodLink (mm_rn (mm_own k)) x Lib.Math.max.name) && mm_w (mm_bW j).1 (.static Lib.Math.max.name) && mm_w (mm_bW j).2.1 (.initialized "java/lang/Math") && mm_w (mm_bW j).2.2 (.code Lib.Math.max.name Lib.Math.max.code 2 (some .int))
    else if j = 1001 then mm_w w (.methodLink (mm_rn (mm_own k)) x Lib.Math.min.name) && mm_w (mm_bW j).1 (.static Lib.Math.min.name) && mm_w (mm_bW j).2.1 (.initialized "java/lang/Math") && mm_w (mm_bW j).2.2 (.code Lib.Math.min.name Lib.Math.min.code 2 (some .int))
    else if j = 1002 then false
    else mm_w w (.methodLink (mm_rn (mm_own k)) x arraycopyName) && mm_w (mm_bW j).1 (.static arraycopyName) && mm_w (mm_bW j).2.1 (.initialized "java/lang/System") && mm_w (mm_bW j).2.2 (.native arraycopyName) && decide (8 + (nativeFrameWords "java/lang/System" "arraycopy" 5 + 11) ≤ mm_lo k))
  | _ => false)
def mm_fk (k a x : Nat) (put : Bool) : Bool := match mm_fL.lookup (mm_own k, x) with
  | some (nest, a', w) => decide (a' = a) && decide (a / 100 < 6) && decide (a % 100 < mm_N (a / 100)) && (!put || (decide ((mm_T (a / 100) (a % 100)).2.2.2 = false) && decide (mm_tyf (a / 100) (a % 100) = .int))) &&
    (if nest then decide (lw_tbl[w]? = some (.fieldLinkNest (mm_rn (mm_own k)) x (mm_T (a / 100) (a % 100)).1 (mm_T (a / 100) (a % 100)).2.1 (mm_T (a / 100) (a % 100)).2.2.1 "WareHall"))
      else mm_w w (.fieldLink (mm_rn (mm_own k)) x (mm_T (a / 100) (a % 100)).1 (mm_T (a / 100) (a % 100)).2.1 (mm_T (a / 100) (a % 100)).2.2.1))
  | none => false
def mm_names : List String := ["java/lang/RuntimeException", "java/lang/Exception"]
/-- an exception of the class's -/
def mm_ek (e : Nat) : Bool := decide (Bundle.fit (mm_eN e) = true) && mm_names.all (fun n => decide (Bundle.fit n = true)) &&
  decide (Cond.classLink RX5 (mm_eI e).1 (mm_eN e) ∈ lw_tbl) && decide (Cond.initialized (mm_eN e) ∈ lw_tbl) && decide (Cond.castable (mm_eN e) (mm_eN e) ∈ lw_tbl) && (vx_atS RX5 (mm_eI e).2 (mm_eN e) mm_names).all (fun w => decide (w ∈ lw_tbl) && w.onTables && w.keepsOver && vx_ot w)
def mm_tk (k pc t : Nat) : Bool := match mm_tL[t]? with
  | some (e, own, ik, is, ic, tx, wd) => decide (e < 5) && decide (own = 5) && decide (mm_own k = 5) && decide ((ik, ic) = mm_eI e) && decide (lw_tbl[mm_sW.getD t 0]? = some (.stringRef RX5 is tx)) && decide (5 < mm_fr k) && decide (82 ≤ mm_lo k) && (mm_hh k).isEmpty &&
    mm_dc k pc (.new ik) 3 && mm_dc k (pc + 3) .dup 1 && (if wd then mm_dc k (pc + 4) (.ldc_w is) 3 && mm_dc k (pc + 7) (.invokespecial ic) 3 && mm_dc k (pc + 10) .athrow 1 else mm_dc k (pc + 4) (.ldc is) 2 && mm_dc k (pc + 6) (.invokespecial ic) 3 && mm_dc k (pc + 9) .athrow 1)
  | none => false
/-- the handlers of a little method of the law: [astore; a number; ireturn] -/
def mm_hn (k pc : Nat) (a : Int) : Bool := (mm_dc k pc (.sipush a) 3 && decide ((Int16.ofInt a).toInt32 = Int32.ofInt a) && mm_dc k (pc + 3) .ireturn 1) || (mm_dc k pc (.bipush a) 2 && decide ((Int8.ofInt a).toInt32 = Int32.ofInt a) && mm_dc k (pc + 2) .ireturn 1)
def mm_hk (k : Nat) : Bool := (mm_hh k).zipIdx.all (fun h => decide (h.1.2.2.2 ≠ 0) && decide (Cond.classLink RL h.1.2.2.2 (mm_hd.mm_cn k h.1) ∈ lw_tbl) && decide (mm_own k = 7) &&
  (match mm_ret k with
    | some ty => decide (narrow ty (.int (Int32.ofInt ((mm_ans k).getD h.2 0))) = .int (Int32.ofInt ((mm_ans k).getD h.2 0)))
    | none => false) &&
  (match decode (mm_b k) h.1.2.2.1 with
    | .ok (.astore_n a, 1) => decide (a.val < mm_maxL k) && mm_hn k (h.1.2.2.1 + 1) ((mm_ans k).getD h.2 0)
    | .ok (.astore a, 2) => decide (a < mm_maxL k) && mm_hn k (h.1.2.2.1 + 2) ((mm_ans k).getD h.2 0)
    | _ => false))
def mm_cv (k pc : Nat) : Bool := (mm_hh k).all (fun h => decide (h.1 ≤ pc) && decide (pc < h.2.1))
def mm_ck (k pc : Nat) : Instr × Nat × Nat → Bool
  | (.iload a, np, x) => (decide (x = 0) && decide (np = pc + 1) && decide ((Fin.ofNat 4 a).val = a) && mm_dc k pc (.iload_n (Fin.ofNat 4 a)) 1) || (decide (np = pc + 2) && mm_dc k pc (.iload a) 2)
  | (.aload a, np, x) => (decide (x = 0) && decide (np = pc + 1) && decide ((Fin.ofNat 4 a).val = a) && mm_dc k pc (.aload_n (Fin.ofNat 4 a)) 1) || (decide (np = pc + 2) && mm_dc k pc (.aload a) 2)
  | (.lload a, np, x) => (decide (x = 0) && decide (np = pc + 1) && decide ((Fin.ofNat 4 a).val = a) && mm_dc k pc (.lload_n (Fin.ofNat 4 a)) 1) || (decide (np = pc + 2) && mm_dc k pc (.lload a) 2)
  | (.istore a, np, x) => (decide (x = 0) && decide (np = pc + 1) && decide ((Fin.ofNat 4 a).val = a) && mm_dc k pc (.istore_n (Fin.ofNat 4 a)) 1) || (decide (np = pc + 2) && mm_dc k pc (.istore a) 2)
  | (.astore a, np, x) => (decide (x = 0) && decide (np = pc + 1) && decide ((Fin.ofNat 4 a).val = a) && mm_dc k pc (.astore_n (Fin.ofNat 4 a)) 1) || (decide (np = pc + 2) && mm_dc k pc (.astore a) 2)
  | (.lstore a, np, x) => (decide (x = 0) && decide (np = pc + 1) && decide ((Fin.ofNat 4 a).val = a) && mm_dc k pc (.lstore_n (Fin.ofNat 4 a)) 1) || (decide (np = pc + 2) && mm_dc k pc (.lstore a) 2)
  | (.iconst n, np, x) => if x = 0 then decide (np = pc + 1) && mm_dc k pc (.iconst n) 1
      else if x = 1 then decide (np = pc + 2) && mm_dc k pc (.bipush n) 2 && decide ((Int8.ofInt n).toInt32 = Int32.ofInt n)
      else if x = 2 then decide (np = pc + 3) && mm_dc k pc (.sipush n) 3 && decide ((Int16.ofInt n).toInt32 = Int32.ofInt n)
      else (match mm_cL.lookup (mm_own k, (x - 3) / 2) with
        | some w => mm_w w (.constant (mm_rn (mm_own k)) ((x - 3) / 2) (Int32.ofInt n)) && (if x % 2 = 1 then decide (np = pc + 2) && mm_dc k pc (.ldc ((x - 3) / 2)) 2 else decide (np = pc + 3) && mm_dc k pc (.ldc_w ((x - 3) / 2)) 3)
        | none => false)
  | (.ldc2_w n, np, x) => decide (np = pc + 3) && mm_dc k pc (.ldc2_w x) 3 && (match mm_dL.lookup (mm_own k, x) with
    | some w => mm_w w (.constantLong (mm_rn (mm_own k)) x (Int64.ofNat n))
    | none => false)
  | (.iinc a n, np, _) => decide (np = pc + 3) && mm_dc k pc (.iinc a n) 3
  | (.goto _, t, _) => mm_dc k pc (.goto ((t : Int) - pc)) 3
  | (.ifCond c _, np, t) => decide (np = pc + 3) && mm_dc k pc (.ifCond c ((t : Int) - pc)) 3
  | (.if_icmp c _, np, t) => decide (np = pc + 3) && mm_dc k pc (.if_icmp c ((t : Int) - pc)) 3
  | (.tableswitch d lo hi offs, np, _) => mm_dc k pc (.tableswitch d lo hi offs) (np - pc)
  | (.getfield a, np, x) => decide (np = pc + 3) && mm_dc k pc (.getfield x) 3 && mm_fk k a x false
  | (.putfield a, np, x) => decide (np = pc + 3) && mm_dc k pc (.putfield x) 3 && mm_fk k a x true
  | (.invokevirtual j, np, x) => decide (np = pc + 3) && mm_dc k pc (.invokevirtual x) 3 && mm_lk k j x && mm_rm k j && mm_fm j && !(mm_stt j) && (mm_hh j).isEmpty && mm_cv k pc
  | (.invokestatic j, np, x) => decide (np = pc + 3) && mm_dc k pc (.invokestatic x) 3 && (if 1000 ≤ j then mm_bk k j x else mm_lk k j x && mm_rm k j && mm_fm j && mm_stt j && mm_cv k pc)
  | (.lreturn, _, _) => mm_dc k pc .lreturn 1 && decide (mm_ret k = some .long)
  | (.return_, _, _) => mm_dc k pc .return_ 1 && decide (mm_ret k = none)
  | (.athrow, _, t) => mm_tk k pc t
  | (i, np, _) => decide (np = pc + 1) && mm_dc k pc i 1
def mm_ckk (k : Nat) : Bool := (mm_ops k).all (fun q => mm_ck k q.1 q.2) && mm_hk k
