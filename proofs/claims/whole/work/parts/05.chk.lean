noncomputable def am_m (j : Nat) : Option am_D := (am_ms[j / 16]?.getD [])[j % 16]?
def am_wd (wi : Nat) (w : Cond) : Bool := decide (lw_tbl[wi]? = some w)
def am_cn (t : Nat) : String := match vwCl[t - 1]? with
  | some (C, _, _) => C
  | none => ""
def am_fd (t k : Nat) : String × String × String × Bool := match vwCl[t - 1]? with
  | some (_, T, _) => T k
  | none => ("", "", "", false)
def am_cb (d : am_D) (pc : Nat) (b : Nat) : Bool := match b with
  | 0 => decide (decode (am_by d) pc = .ok (.iadd, 1))
  | 1 => decide (decode (am_by d) pc = .ok (.isub, 1))
  | 2 => decide (decode (am_by d) pc = .ok (.imul, 1))
  | 3 => decide (decode (am_by d) pc = .ok (.idiv, 1))
  | 4 => decide (decode (am_by d) pc = .ok (.irem, 1))
  | 5 => decide (decode (am_by d) pc = .ok (.iand, 1))
  | 6 => decide (decode (am_by d) pc = .ok (.ior, 1))
  | 7 => decide (decode (am_by d) pc = .ok (.ishl, 1))
  | 8 => decide (decode (am_by d) pc = .ok (.ishr, 1))
  | 9 => decide (decode (am_by d) pc = .ok (.iushr, 1))
  | _ => false
def am_ci (d : am_D) (pc : Nat) (o : Int) (b : Nat) : Bool := match b with
  | 0 => decide (decode (am_by d) pc = .ok (.ifCond .eq o, 3))
  | 1 => decide (decode (am_by d) pc = .ok (.ifCond .ne o, 3))
  | 2 => decide (decode (am_by d) pc = .ok (.ifCond .lt o, 3))
  | 3 => decide (decode (am_by d) pc = .ok (.ifCond .ge o, 3))
  | 4 => decide (decode (am_by d) pc = .ok (.ifCond .gt o, 3))
  | 5 => decide (decode (am_by d) pc = .ok (.ifCond .le o, 3))
  | _ => false
def am_cj (d : am_D) (pc : Nat) (o : Int) (b : Nat) : Bool := match b with
  | 0 => decide (decode (am_by d) pc = .ok (.if_icmp .eq o, 3))
  | 1 => decide (decode (am_by d) pc = .ok (.if_icmp .ne o, 3))
  | 2 => decide (decode (am_by d) pc = .ok (.if_icmp .lt o, 3))
  | 3 => decide (decode (am_by d) pc = .ok (.if_icmp .ge o, 3))
  | 4 => decide (decode (am_by d) pc = .ok (.if_icmp .gt o, 3))
  | 5 => decide (decode (am_by d) pc = .ok (.if_icmp .le o, 3))
  | _ => false
def am_prs : List Nat → Nat → List (Int × Int)
  | k :: t :: r, pc => ((k : Int), (t : Int) - (pc : Int)) :: am_prs r pc
  | _, _ => []
def am_k0 (d : am_D) (pc q : Nat) (v : Int) (xs : List Nat) : Bool := match xs with
  | [0] => decide (decode (am_by d) pc = .ok (.iconst v, 1)) && q == pc + 1
  | [1] => decide (decode (am_by d) pc = .ok (.bipush v, 2)) && q == pc + 2 && decide ((Int8.ofInt v).toInt32 = Int32.ofInt v)
  | [2] => decide (decode (am_by d) pc = .ok (.sipush v, 3)) && q == pc + 3 && decide ((Int16.ofInt v).toInt32 = Int32.ofInt v)
  | [3, ix, wi] => decide (decode (am_by d) pc = .ok (.ldc ix, 2)) && q == pc + 2 && am_wd wi (.constant (am_nm d).cls ix (Int32.ofInt v))
  | [4, ix, wi] => decide (decode (am_by d) pc = .ok (.ldc_w ix, 3)) && q == pc + 3 && am_wd wi (.constant (am_nm d).cls ix (Int32.ofInt v))
  | _ => false
def am_kl (d : am_D) (pc q : Nat) (f : Nat → Instr) (g : Fin 4 → Instr) (xs : List Nat) : Bool := match xs with
  | [i, 0] => decide (decode (am_by d) pc = .ok (f i, 2)) && q == pc + 2 && decide (i < am_ml d)
  | [i, 1] => decide (i < 4) && decide (decode (am_by d) pc = .ok (g (Fin.ofNat 4 i), 1)) && q == pc + 1 && decide (i < am_ml d)
  | _ => false
def am_kf (d : am_D) (pc q : Nat) (f : Nat → Instr) (xs : List Nat) : Bool := match xs with
  | [t, k, ix, wi] => decide (1 ≤ t) && decide (t ≤ 13) && decide (k < am_nf t) && decide (decode (am_by d) pc = .ok (f ix, 3)) && q == pc + 3 && am_wd wi (.fieldLink (am_nm d).cls ix (am_cn t) (am_fd t k).2.1 (am_fd t k).2.2.1) && decide ((am_fd t k).1 = am_cn t)
  | _ => false
def am_kp (d : am_D) (xs : List Nat) : Bool := match xs with
  | [t, k, _, _] => !(am_fd t k).2.2.2 || (decide ((am_nm d).name = "<init>") && decide (am_cn t = (am_nm d).cls))
  | _ => false
def am_kP (b : Bool) (xs : List Nat) : Bool := match xs with
  | [t, k, _, _] => am_isP t k == b
  | _ => false
noncomputable def am_kc (d : am_D) (pc q : Nat) (xs : List Nat) : Bool := match xs with
  | [jc, na, kd, ix, wi, t] => match am_m jc with
    | some dc => (q == pc + 3) && (kd % 4 == am_kd dc) && (na == (if kd % 4 = 2 then am_np dc else am_np dc + 1)) &&
      (match kd with
        | 0 => decide (decode (am_by d) pc = .ok (.invokevirtual ix, 3)) && am_wd wi (.methodLink (am_nm d).cls ix (am_nm dc)) && decide (1 ≤ t) && decide (t ≤ 13) && decide (am_cn t = (am_nm dc).cls)
        | 1 => decide (decode (am_by d) pc = .ok (.invokespecial ix, 3)) && am_wd wi (.methodLink (am_nm d).cls ix (am_nm dc))
        | 2 => decide (decode (am_by d) pc = .ok (.invokestatic ix, 3)) && am_wd wi (.methodLink (am_nm d).cls ix (am_nm dc))
        | 5 => decide (decode (am_by d) pc = .ok (.invokespecial ix, 3)) && am_wd wi (.methodLinkNest (am_nm d).cls ix (am_nm dc) "StepWorld")
        | 6 => decide (decode (am_by d) pc = .ok (.invokestatic ix, 3)) && am_wd wi (.methodLinkNest (am_nm d).cls ix (am_nm dc) "StepWorld")
        | _ => false)
    | none => false
  | _ => false
/-- an instruction is the one that stands there, and its words are in the tables -/
noncomputable def am_ok (d : am_D) (pc : Nat) (r : am_R) : Bool := match r.1 with
  | 0 => am_k0 d pc r.2.1 r.2.2.1 r.2.2.2
  | 1 => am_kl d pc r.2.1 .iload .iload_n r.2.2.2
  | 2 => am_kl d pc r.2.1 .aload .aload_n r.2.2.2
  | 3 => am_kl d pc r.2.1 .istore .istore_n r.2.2.2
  | 4 => am_kl d pc r.2.1 .astore .astore_n r.2.2.2
  | 5 => match r.2.2.2 with
    | [i] => decide (decode (am_by d) pc = .ok (.iinc i r.2.2.1, 3)) && r.2.1 == pc + 3 && decide (i < am_ml d)
    | _ => false
  | 6 => match r.2.2.2 with
    | [10, ix, wi] => decide (decode (am_by d) pc = .ok (.invokestatic ix, 3)) && r.2.1 == pc + 3 && am_wd wi (.methodLink (am_nm d).cls ix Lib.Math.min.name)
    | [11, ix, wi] => decide (decode (am_by d) pc = .ok (.invokestatic ix, 3)) && r.2.1 == pc + 3 && am_wd wi (.methodLink (am_nm d).cls ix Lib.Math.max.name)
    | [b] => r.2.1 == pc + 1 && am_cb d pc b
    | _ => false
  | 7 => r.2.1 == pc + 1 && (match r.2.2.2.headD 9 with
    | 0 => decide (decode (am_by d) pc = .ok (.i2b, 1))
    | 1 => decide (decode (am_by d) pc = .ok (.i2s, 1))
    | _ => false)
  | 8 => decide (decode (am_by d) pc = .ok (.dup, 1)) && r.2.1 == pc + 1
  | 9 => decide (decode (am_by d) pc = .ok (.dup2, 1)) && r.2.1 == pc + 1
  | 10 => decide (decode (am_by d) pc = .ok (.pop, 1)) && r.2.1 == pc + 1
  | 11 => r.2.1 == pc + 3 && am_ci d pc ((r.2.2.2.getD 1 0 : Int) - (pc : Int)) (r.2.2.2.headD 0)
  | 12 => r.2.1 == pc + 3 && am_cj d pc ((r.2.2.2.getD 1 0 : Int) - (pc : Int)) (r.2.2.2.headD 0)
  | 13 => decide (decode (am_by d) pc = .ok (.goto ((r.2.2.2.headD 0 : Int) - (pc : Int)), 3))
  | 14 => decide (decode (am_by d) pc = .ok (.tableswitch ((r.2.2.2.headD 0 : Int) - (pc : Int)) r.2.2.1 (r.2.2.1 + (r.2.2.2.tail.length : Int) - 1) (r.2.2.2.tail.map (fun t : Nat => (t : Int) - (pc : Int))).toArray, r.2.1 - pc))
  | 15 => decide (decode (am_by d) pc = .ok (.lookupswitch ((r.2.2.2.headD 0 : Int) - (pc : Int)) (am_prs r.2.2.2.tail pc).toArray, r.2.1 - pc)) && ((am_prs r.2.2.2.tail pc).zip ((am_prs r.2.2.2.tail pc).drop 1)).all (fun (a, next) => a.1 < next.1) && decide (2 * (am_prs r.2.2.2.tail pc).length = r.2.2.2.tail.length)
  | 16 => am_kf d pc r.2.1 .getfield r.2.2.2 && am_kP false r.2.2.2
  | 17 => am_kf d pc r.2.1 .getfield r.2.2.2 && am_kP true r.2.2.2
  | 18 => am_kf d pc r.2.1 .putfield r.2.2.2 && am_kP false r.2.2.2 && am_kp d r.2.2.2
  | 19 => am_kf d pc r.2.1 .putfield r.2.2.2 && am_kP true r.2.2.2 && am_kp d r.2.2.2
  | 20 => match r.2.2.2 with
    | [ix, wi] => decide (decode (am_by d) pc = .ok (.getstatic ix, 3)) && r.2.1 == pc + 3 && am_wd wi (.fieldLink (am_nm d).cls ix "StepWorld" "ABOVE" "[I")
    | _ => false
  | 21 => decide (decode (am_by d) pc = .ok (.iaload, 1)) && r.2.1 == pc + 1
  | 22 => decide (decode (am_by d) pc = .ok (.iastore, 1)) && r.2.1 == pc + 1
  | 23 => decide (decode (am_by d) pc = .ok (.baload, 1)) && r.2.1 == pc + 1
  | 24 => decide (decode (am_by d) pc = .ok (.bastore, 1)) && r.2.1 == pc + 1
  | 25 => decide (decode (am_by d) pc = .ok (.aaload, 1)) && r.2.1 == pc + 1
  | 26 => decide (decode (am_by d) pc = .ok (.aastore, 1)) && r.2.1 == pc + 1
  | 27 => decide (decode (am_by d) pc = .ok (.arraylength, 1)) && r.2.1 == pc + 1
  | 28 => match r.2.2.2 with
    | [t, ix, wi, wj, wk] => decide (decode (am_by d) pc = .ok (.new ix, 3)) && r.2.1 == pc + 3 && decide (1 ≤ t) && decide (t ≤ 13) && am_wd wi (.classLink (am_nm d).cls ix (am_cn t)) && am_wd wj (.instantiable (am_cn t) (am_nf t)) && am_wd wk (.initialized (am_cn t))
    | _ => false
  | 29 => match r.2.2.2 with
    | [20, wi] => decide (decode (am_by d) pc = .ok (.newarray .int, 2)) && r.2.1 == pc + 2 && am_wd wi (.arrayClass .int)
    | [21, wi] => decide (decode (am_by d) pc = .ok (.newarray .boolean, 2)) && r.2.1 == pc + 2 && am_wd wi (.arrayClass .boolean)
    | _ => false
  | 30 => match r.2.2.2 with
    | [t, ix, wi] => decide (decode (am_by d) pc = .ok (.anewarray ix, 3)) && r.2.1 == pc + 3 && decide (22 ≤ t) && decide (t < 26) && am_wd wi (.classLink (am_nm d).cls ix (am_cn (am_el t)))
    | _ => false
  | 31 => match r.2.2.2 with
    | [ix, wi] => decide (decode (am_by d) pc = .ok (.checkcast ix, 3)) && r.2.1 == pc + 3 && am_wd wi (.classLink (am_nm d).cls ix "[I")
    | _ => false
  | 32 => am_kc d pc r.2.1 r.2.2.2
  | 33 => match r.2.2.2 with
    | [ix, wi] => decide (decode (am_by d) pc = .ok (.invokestatic ix, 3)) && r.2.1 == pc + 3 && am_wd wi (.methodLink (am_nm d).cls ix arraycopyName)
    | _ => false
  | 34 => match r.2.2.2 with
    | [ix, wi] => decide (decode (am_by d) pc = .ok (.invokevirtual ix, 3)) && r.2.1 == pc + 3 && am_wd wi (.methodLink (am_nm d).cls ix ⟨"[I", "clone", "()Ljava/lang/Object;"⟩)
    | _ => false
  | 35 => match r.2.2.2 with
    | [ix, wi] => decide (decode (am_by d) pc = .ok (.invokespecial ix, 3)) && r.2.1 == pc + 3 && am_wd wi (.methodLink (am_nm d).cls ix objectInit)
    | _ => false
  | 36 => decide (decode (am_by d) pc = .ok (.ireturn, 1))
  | 37 => decide (decode (am_by d) pc = .ok (.areturn, 1)) && (match am_rt d with
    | some (.object _) => true
    | some (.array _) => true
    | _ => false)
  | 38 => decide (decode (am_by d) pc = .ok (.return_, 1)) && decide (am_rt d = none)
  | _ => false
/-- a method's own words -/
def am_okd (d : am_D) : Bool := match am_wl d with
  | wc :: wi :: wk :: r => plainName (am_nm d).cls && decide ((am_nm d).cls ≠ "java/lang/invoke/MethodHandle") && decide ((am_nm d).cls ≠ "java/lang/invoke/VarHandle") && decide ((parseMethodDescriptor (am_nm d).desc).map (fun z => z.parameters.length) = some (am_np d)) && decide (am_np d + 1 ≤ 40) && decide (am_ml d ≤ 40) && decide ((if am_kd d = 2 then am_np d else am_np d + 1) ≤ am_ml d) &&
      am_wd wc (.code (am_nm d) (am_by d) (am_ml d) (am_rt d)) && am_wd wi (.initialized (am_nm d).cls) && (match am_kd d with
        | 0 => am_wd wk (.instanceMethod (am_nm d)) && am_wd (r.headD 0) (.selects (am_nm d).cls (am_nm d) (am_nm d))
        | 1 => am_wd wk (.instanceMethod (am_nm d)) && decide ((am_nm d).name = "<init>") && decide (am_rt d = none)
        | 2 => am_wd wk (.static (am_nm d))
        | _ => false)
  | _ => decide (am_kd d = 3)
noncomputable def am_okm (d : am_D) : Bool := am_okd d && (am_cd d).all (fun ch => ch.all (fun p => am_ok d p.1 p.2))
theorem am_alla {α : Type} {p : α → Bool} {l1 l2 : List α} (h1 : l1.all p = true) (h2 : l2.all p = true) : (l1 ++ l2).all p = true := by rw [List.all_append, h1, h2]; rfl
theorem am_okmk {d : am_D} (h1 : am_okd d = true) (h2 : (am_cd d).all (fun ch => ch.all (fun p => am_ok d p.1 p.2)) = true) : am_okm d = true := by unfold am_okm; rw [h1, h2]; rfl
