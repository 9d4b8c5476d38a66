/-! THE ABSTRACT MACHINE. A world is a list of cells; a reference is a cell's place in its world. A method's contract is an impredicative closure: no address, no table, no frame of the real machine stands in it. -/
abbrev xE : Type := (Nat × (Nat → Int32)) ⊕ (Nat × List Value)
abbrev xH : Type := List xE
abbrev xL : Type := List (Option Value)
/-- an instruction, its length, its numbers (a constant's value; targets; a field's class, slot, type; a callee's number), its long -/
abbrev xI : Type := Instr × Nat × List (Int32 × Nat) × Int64
abbrev xT : Type := List (Nat × xI)
/-- a class: its name, its fields by pool number (class number, slot, type), its constants, its longs, its callees -/
abbrev xC : Type := String × List (Nat × Nat × Nat × Nat) × List (Nat × Int32) × List (Nat × Int64) × List (Nat × Nat)
/-- a method: its name, bytes, locals, answer, instructions, its class, whether it is static -/
abbrev xM : Type := MethodName × ByteArray × Nat × Option FieldType × xT × xC × Bool
abbrev xK : Type := Nat → xL → List Value → xH → Prop
def xnth {α : Type} : List α → Nat → Option α
  | [], _ => none
  | a :: _, 0 => some a
  | _ :: t, k + 1 => xnth t k
theorem xnth_eq {α : Type} : ∀ (l : List α) (k : Nat), xnth l k = l[k]?
  | [], _ => by simp [xnth]
  | _ :: _, 0 => by simp [xnth]
  | _ :: t, k + 1 => by simp [xnth, xnth_eq t k]
def xlk {α : Type} : List (Nat × α) → Nat → Option α
  | [], _ => none
  | (i, a) :: t, k => cond (Nat.beq i k) (some a) (xlk t k)
theorem xlk_mem {α : Type} : ∀ {l : List (Nat × α)} {k : Nat} {a : α}, xlk l k = some a → (k, a) ∈ l
  | [], _, _, h => by simp [xlk] at h
  | (i, b) :: t, k, a, h => by
    unfold xlk at h
    cases hb : Nat.beq i k with
    | true =>
      rw [hb] at h
      simp only [cond_true, Option.some.injEq] at h
      have e := Nat.eq_of_beq_eq_true hb
      subst e; subst h
      exact List.mem_cons_self
    | false =>
      rw [hb] at h
      simp only [cond_false] at h
      exact List.mem_cons_of_mem _ (xlk_mem h)
def xcat (st : List Value) : Nat := (st.map fun v => v.category).sum
/-- the place before holds no value of two slots -/
def xprev (loc : xL) : Nat → Bool
  | 0 => true
  | j + 1 => match xnth loc j with
    | some (some v) => Nat.beq v.category 1
    | _ => true
def xst1 (loc : xL) (i : Nat) (v : Value) (k : xL → Prop) : Prop := match xprev loc i, xnth loc i with
  | true, some _ => k (loc.set i (some v))
  | _, _ => False
def xst2 (loc : xL) (i : Nat) (v : Value) (k : xL → Prop) : Prop := match xprev loc i, xnth loc (i + 1) with
  | true, some _ => k ((loc.set i (some v)).set (i + 1) none)
  | _, _ => False
def xbr (c a b : Prop) : Prop := (c → a) ∧ (¬ c → b)
def xbn (c a b : Prop) : Prop := (¬ c → a) ∧ (c → b)
def xsw (x : Int32) (k : Nat → Prop) (d : Nat) : List (Int32 × Nat) → Prop
  | [] => k d
  | (key, t) :: r => (x = key → k t) ∧ (¬ x = key → xsw x k d r)
def xcmp (c : ClassFile.Cond) (x y : Int32) (a b : Prop) : Prop := match c with
  | .eq => xbr (x = y) a b
  | .ne => xbn (x = y) a b
  | .lt => xbr (x < y) a b
  | .ge => xbr (y ≤ x) a b
  | .gt => xbr (y < x) a b
  | .le => xbr (x ≤ y) a b
def xii (st : List Value) (f : Int32 → Int32 → List Value → Prop) : Prop := match st with
  | .int y :: .int x :: r => f x y r
  | _ => False
def xll (st : List Value) (f : Int64 → Int64 → List Value → Prop) : Prop := match st with
  | .long y :: .long x :: r => f x y r
  | _ => False
def xiload (loc : xL) (j : Nat) (f : Value → Prop) : Prop := match xnth loc j with
  | some (some (.int x)) => f (.int x)
  | _ => False
def xaload (loc : xL) (j : Nat) (f : Value → Prop) : Prop := match xnth loc j with
  | some (some (.ref x)) => f (.ref x)
  | _ => False
def xlload (loc : xL) (j : Nat) (f : Value → Prop) : Prop := match xnth loc j with
  | some (some (.long x)) => f (.long x)
  | _ => False
def xistore (loc : xL) (st : List Value) (j : Nat) (f : xL → List Value → Prop) : Prop := match st with
  | .int x :: r => xst1 loc j (.int x) (fun l => f l r)
  | _ => False
def xlstore (loc : xL) (st : List Value) (j : Nat) (f : xL → List Value → Prop) : Prop := match st with
  | .long x :: r => xst2 loc j (.long x) (fun l => f l r)
  | _ => False
def xcon (an : List (Int32 × Nat)) (f : Int32 → Prop) : Prop := match an with
  | (v, _) :: _ => f v
  | _ => False
def xtgt (an : List (Int32 × Nat)) (f : Nat → Prop) : Prop := match an with
  | (_, t) :: _ => f t
  | _ => False
def xgetf (an : List (Int32 × Nat)) (st : List Value) (ws : xH) (f : Value → List Value → Prop) : Prop := match an, st with
  | (_, ci) :: (_, sl) :: _, .ref a :: r => match xnth ws a with
    | some (.inr (c, fs)) => match Nat.beq c ci, xnth fs sl with
      | true, some v => f v r
      | _, _ => False
    | _ => False
  | _, _ => False
def xputf (an : List (Int32 × Nat)) (st : List Value) (ws : xH) (f : List Value → xH → Prop) : Prop := match an, st with
  | (_, ci) :: (_, sl) :: (_, ty) :: _, .int x :: .ref a :: r => match xnth ws a with
    | some (.inr (c, fs)) => match Nat.beq c ci, xnth fs sl, ty with
      | true, some _, 0 => f r (ws.set a (.inr (c, fs.set sl (.int x))))
      | true, some _, 1 => (x = 0 ∨ x = 1) ∧ f r (ws.set a (.inr (c, fs.set sl (.int x))))
      | _, _, _ => False
    | _ => False
  | _, _ => False
def xiald (st : List Value) (ws : xH) (f : Value → List Value → Prop) : Prop := match st with
  | .int i :: .ref a :: r => match xnth ws a with
    | some (.inl (n, g)) => vp_in i n ∧ f (.int (g i.toNatClampNeg)) r
    | _ => False
  | _ => False
def xiast (st : List Value) (ws : xH) (f : List Value → xH → Prop) : Prop := match st with
  | .int x :: .int i :: .ref a :: r => match xnth ws a with
    | some (.inl (n, g)) => vp_in i n ∧ f r (ws.set a (.inl (n, upd g i.toNatClampNeg x)))
    | _ => False
  | _ => False
def xalen (st : List Value) (ws : xH) (f : Value → List Value → Prop) : Prop := match st with
  | .ref a :: r => match xnth ws a with
    | some (.inl (n, _)) => f (.int (Int32.ofNat n)) r
    | _ => False
  | _ => False
def xdup (st : List Value) (f : List Value → Prop) : Prop := match st with
  | .int x :: r => f (.int x :: .int x :: r)
  | .ref x :: r => f (.ref x :: .ref x :: r)
  | _ => False
def xdup2 (st : List Value) (f : List Value → Prop) : Prop := match st with
  | .int x :: .ref y :: r => f (.int x :: .ref y :: .int x :: .ref y :: r)
  | _ => False
/-- Math.min, where the numbers say so -/
def xmin (an : List (Int32 × Nat)) (st : List Value) (f : List Value → Prop) (d : Prop) : Prop := match an with
  | (_, _) :: _ :: _ => match st with
    | .int y :: .int x :: r => match Nat.ble (xcat r) 8 with
      | true => f (.int (if y < x then y else x) :: r)
      | false => False
    | _ => False
  | _ => d
def xcnd (an : List (Int32 × Nat)) (st : List Value) (f : Int32 → List Value → Nat → Prop) : Prop := match an, st with
  | (_, t) :: _, .int x :: r => f x r t
  | _, _ => False
def xcnd2 (an : List (Int32 × Nat)) (st : List Value) (f : Int32 → Int32 → List Value → Nat → Prop) : Prop := match an, st with
  | (_, t) :: _, .int y :: .int x :: r => f x y r t
  | _, _ => False
def xswi (an : List (Int32 × Nat)) (st : List Value) (f : Int32 → List Value → Nat → List (Int32 × Nat) → Prop) : Prop := match an, st with
  | (_, d) :: cs, .int x :: r => f x r d cs
  | _, _ => False
def xi2l (st : List Value) (f : List Value → Prop) : Prop := match st with
  | .int x :: r => f (.long x.toInt64 :: r)
  | _ => False
def xineg (st : List Value) (f : List Value → Prop) : Prop := match st with
  | .int x :: r => f (.int (-x) :: r)
  | _ => False
/-- one instruction that is no call and no return: what must hold so that the machine goes on to k -/
def xstep (i : xI) (pc : Nat) (loc : xL) (st : List Value) (ws : xH) (k : xK) (dflt : Prop) : Prop :=
  match i with
  | (op, n, an, jl) => match op with
    | .aload_n j => xaload loc j.val (fun v => k (pc + n) loc (v :: st) ws)
    | .aload j => xaload loc j (fun v => k (pc + n) loc (v :: st) ws)
    | .iload_n j => xiload loc j.val (fun v => k (pc + n) loc (v :: st) ws)
    | .iload j => xiload loc j (fun v => k (pc + n) loc (v :: st) ws)
    | .lload_n j => xlload loc j.val (fun v => k (pc + n) loc (v :: st) ws)
    | .lload j => xlload loc j (fun v => k (pc + n) loc (v :: st) ws)
    | .istore_n j => xistore loc st j.val (fun l r => k (pc + n) l r ws)
    | .istore j => xistore loc st j (fun l r => k (pc + n) l r ws)
    | .lstore_n j => xlstore loc st j.val (fun l r => k (pc + n) l r ws)
    | .lstore j => xlstore loc st j (fun l r => k (pc + n) l r ws)
    | .iinc j _ => match xnth loc j with
      | some (some (.int x)) => xcon an (fun v => xst1 loc j (.int (x + v)) (fun l => k (pc + n) l st ws))
      | _ => False
    | .iconst _ => xcon an (fun v => k (pc + n) loc (.int v :: st) ws)
    | .bipush _ => xcon an (fun v => k (pc + n) loc (.int v :: st) ws)
    | .sipush _ => xcon an (fun v => k (pc + n) loc (.int v :: st) ws)
    | .ldc _ => xcon an (fun v => k (pc + n) loc (.int v :: st) ws)
    | .ldc_w _ => xcon an (fun v => k (pc + n) loc (.int v :: st) ws)
    | .lconst _ => k (pc + n) loc (.long jl :: st) ws
    | .ldc2_w _ => k (pc + n) loc (.long jl :: st) ws
    | .iadd => xii st (fun x y r => k (pc + n) loc (.int (x + y) :: r) ws)
    | .isub => xii st (fun x y r => k (pc + n) loc (.int (x - y) :: r) ws)
    | .imul => xii st (fun x y r => k (pc + n) loc (.int (x * y) :: r) ws)
    | .iand => xii st (fun x y r => k (pc + n) loc (.int (x &&& y) :: r) ws)
    | .ior => xii st (fun x y r => k (pc + n) loc (.int (x ||| y) :: r) ws)
    | .ixor => xii st (fun x y r => k (pc + n) loc (.int (x ^^^ y) :: r) ws)
    | .idiv => xii st (fun x y r => ¬ y = 0 ∧ k (pc + n) loc (.int (x / y) :: r) ws)
    | .irem => xii st (fun x y r => ¬ y = 0 ∧ k (pc + n) loc (.int (x - x / y * y) :: r) ws)
    | .ishl => xii st (fun x y r => k (pc + n) loc (.int (x <<< (y &&& 31)) :: r) ws)
    | .ishr => xii st (fun x y r => k (pc + n) loc (.int (x >>> (y &&& 31)) :: r) ws)
    | .iushr => xii st (fun x y r => k (pc + n) loc (.int ((x.toUInt32 >>> (y.toUInt32 &&& Int32.toUInt32 31)).toInt32) :: r) ws)
    | .ineg => xineg st (fun r => k (pc + n) loc r ws)
    | .i2l => xi2l st (fun r => k (pc + n) loc r ws)
    | .lsub => xll st (fun x y r => k (pc + n) loc (.long (x - y) :: r) ws)
    | .lmul => xll st (fun x y r => k (pc + n) loc (.long (x * y) :: r) ws)
    | .ldiv => xll st (fun x y r => ¬ y = 0 ∧ k (pc + n) loc (.long (x / y) :: r) ws)
    | .lrem => xll st (fun x y r => ¬ y = 0 ∧ k (pc + n) loc (.long (x - x / y * y) :: r) ws)
    | .lcmp => xll st (fun x y r => k (pc + n) loc (.int (lg_cmp x y) :: r) ws)
    | .dup => xdup st (fun r => k (pc + n) loc r ws)
    | .dup2 => xdup2 st (fun r => k (pc + n) loc r ws)
    | .getfield _ => xgetf an st ws (fun v r => k (pc + n) loc (v :: r) ws)
    | .putfield _ => xputf an st ws (fun r w => k (pc + n) loc r w)
    | .iaload => xiald st ws (fun v r => k (pc + n) loc (v :: r) ws)
    | .iastore => xiast st ws (fun r w => k (pc + n) loc r w)
    | .arraylength => xalen st ws (fun v r => k (pc + n) loc (v :: r) ws)
    | .goto _ => xtgt an (fun t => k t loc st ws)
    | .ifCond c _ => xcnd an st (fun x r t => xcmp c x 0 (k t loc r ws) (k (pc + n) loc r ws))
    | .if_icmp c _ => xcnd2 an st (fun x y r t => xcmp c x y (k t loc r ws) (k (pc + n) loc r ws))
    | .tableswitch _ _ _ _ => xswi an st (fun x r d cs => xsw x (fun t => k t loc r ws) d cs)
    | .lookupswitch _ _ => xswi an st (fun x r d cs => xsw x (fun t => k t loc r ws) d cs)
    | .invokestatic _ => xmin an st (fun r => k (pc + n) loc r ws) dflt
    | _ => dflt
/-- many instructions: as far as a call, a return, a place to stop at, or the fuel goes -/
def xwp (tb : xT) (stops : List Nat) (G : xK) : Nat → xK
  | 0 => G
  | f + 1 => fun pc loc st ws => match xlk tb pc with
    | none => False
    | some i => xstep i pc loc st ws (fun pc' loc' st' ws' => match stops.any (fun s => Nat.beq s pc') with
      | true => G pc' loc' st' ws'
      | false => xwp tb stops G f pc' loc' st' ws') (G pc loc st ws)
/-- numbers that an instruction bears are its own -/
def xok (K : xC) (pc : Nat) (i : xI) : Bool := match i with
  | (op, n, an, jl) => match op with
    | .aload_n _ | .iload_n _ | .lload_n _ | .istore_n _ | .lstore_n _ => Nat.beq n 1
    | .aload _ | .iload _ | .lload _ | .istore _ | .lstore _ => Nat.beq n 2
    | .iinc _ c => Nat.beq n 3 && match an with
      | (v, _) :: _ => decide (Int32.ofInt c = v)
      | _ => false
    | .iconst c => Nat.beq n 1 && match an with
      | (v, _) :: _ => decide (Int32.ofInt c = v)
      | _ => false
    | .bipush c => Nat.beq n 2 && match an with
      | (v, _) :: _ => decide ((Int8.ofInt c).toInt32 = v)
      | _ => false
    | .sipush c => Nat.beq n 3 && match an with
      | (v, _) :: _ => decide ((Int16.ofInt c).toInt32 = v)
      | _ => false
    | .ldc x => Nat.beq n 2 && match an with
      | (v, _) :: _ => decide (xlk K.2.2.1 x = some v)
      | _ => false
    | .ldc_w x => Nat.beq n 3 && match an with
      | (v, _) :: _ => decide (xlk K.2.2.1 x = some v)
      | _ => false
    | .lconst c => Nat.beq n 1 && decide (Int64.ofNat (c : Nat) = jl)
    | .ldc2_w x => Nat.beq n 3 && decide (xlk K.2.2.2.1 x = some jl)
    | .iadd | .isub | .imul | .iand | .ior | .ixor | .idiv | .irem | .ishl | .ishr | .iushr | .ineg | .i2l | .lsub | .lmul | .ldiv | .lrem | .lcmp | .dup | .dup2 | .iaload | .iastore | .arraylength => Nat.beq n 1
    | .getfield x => Nat.beq n 3 && match an with
      | (_, ci) :: (_, sl) :: (_, ty) :: _ => decide (xlk K.2.1 x = some (ci, sl, ty))
      | _ => false
    | .putfield x => Nat.beq n 3 && match an with
      | (_, ci) :: (_, sl) :: (_, ty) :: _ => decide (xlk K.2.1 x = some (ci, sl, ty))
      | _ => false
    | .goto o => Nat.beq n 3 && match an with
      | (_, t) :: _ => decide ((pc : Int) + o = (t : Int))
      | _ => false
    | .ifCond _ o => Nat.beq n 3 && match an with
      | (_, t) :: _ => decide ((pc : Int) + o = (t : Int))
      | _ => false
    | .if_icmp _ o => Nat.beq n 3 && match an with
      | (_, t) :: _ => decide ((pc : Int) + o = (t : Int))
      | _ => false
    | .tableswitch d lo hi offs => match an with
      | (_, t) :: cs => decide ((pc : Int) + d = (t : Int)) && decide (hi = lo + (offs.size : Int) - 1) && decide (cs.map (fun q => (q.1.toInt, (q.2 : Int))) = offs.toList.zipIdx.map (fun q => (lo + (q.2 : Int), (pc : Int) + q.1)))
      | _ => false
    | .lookupswitch d ps => match an with
      | (_, t) :: cs => decide ((pc : Int) + d = (t : Int)) && decide (cs.map (fun q => (q.1.toInt, (q.2 : Int))) = ps.toList.map (fun q => (q.1, (pc : Int) + q.2))) && (ps.toList.zip (ps.toList.drop 1)).all (fun (a, next) => a.1 < next.1)
      | _ => false
    | .invokestatic x => Nat.beq n 3 && match an with
      | [(_, c)] => decide (xlk K.2.2.2.2 x = some c) && !Nat.beq c 0
      | (_, c) :: _ :: _ => decide (xlk K.2.2.2.2 x = some c) && Nat.beq c 0
      | _ => false
    | .invokevirtual x => Nat.beq n 3 && match an with
      | [(_, c)] => decide (xlk K.2.2.2.2 x = some c) && !Nat.beq c 0
      | _ => false
    | .ireturn | .lreturn | .return_ => Nat.beq n 1
    | _ => false
def xtok (code : ByteArray) (K : xC) (tb : xT) : Bool := tb.all (fun q => decide (decode code q.1 = .ok (q.2.1, q.2.2.1)) && xok K q.1 q.2)
/-- renaming a callee's cells to its caller's places -/
def xrV (pl : List Nat) : Value → Value
  | .ref a => .ref ((xnth pl a).getD 0)
  | v => v
def xrE (pl : List Nat) : xE → xE
  | .inl a => .inl a
  | .inr (c, fs) => .inr (c, fs.map (xrV pl))
def xput (pl : List Nat) : List Nat → xH → xH → xH
  | p :: ps, e :: es, ws => xput pl ps es (ws.set p (xrE pl e))
  | _, _, ws => ws
def xsub (pl : List Nat) (wc ws : xH) : Prop := pl.map (xnth ws) = wc.map (fun e => some (xrE pl e))
def xnum (v : Option Value) : Prop := v = none ∨ (∃ x, v = some (.int x)) ∨ ∃ x, v = some (.long x)
def xsl : List Value → xL
  | [] => []
  | .long x :: t => some (.long x) :: none :: xsl t
  | .double x :: t => some (.double x) :: none :: xsl t
  | v :: t => some v :: xsl t
def xent (args : List Value) (n : Nat) : xL := xsl args ++ List.replicate (n - (xsl args).length) none
abbrev xPost : Type := Option Value → xH → Prop
/-- what a predicate of states must be closed under so that it holds at a method's entry -/
def xG1 (tb : xT) (G : xK) : Prop := ∀ (pc : Nat) (i : xI) (loc : xL) (st : List Value) (ws : xH) (k : xK), xlk tb pc = some i → (∀ pc' loc' st' ws', k pc' loc' st' ws' → G pc' loc' st' ws') → xstep i pc loc st ws k (G pc loc st ws) → G pc loc st ws
def xG2 (tb : xT) (ret : Option FieldType) (Post : xPost) (G : xK) : Prop :=
  (∀ (pc n : Nat) (an : List (Int32 × Nat)) (j : Int64) (loc : xL) (ws : xH) (x : Int32), xlk tb pc = some (.ireturn, n, an, j) → (ret = some .int ∨ (ret = some .boolean ∧ (x = 0 ∨ x = 1))) → Post (some (.int x)) ws → G pc loc [.int x] ws) ∧
  (∀ (pc n : Nat) (an : List (Int32 × Nat)) (j : Int64) (loc : xL) (ws : xH) (x : Int64), xlk tb pc = some (.lreturn, n, an, j) → ret = some .long → Post (some (.long x)) ws → G pc loc [.long x] ws) ∧
  ∀ (pc n : Nat) (an : List (Int32 × Nat)) (j : Int64) (loc : xL) (ws : xH), xlk tb pc = some (.return_, n, an, j) → ret = none → Post none ws → G pc loc [] ws
def xG3 (Ms : List xM) (tb : xT) (Cl : Nat → List Value → xH → xPost → Prop) (G : xK) : Prop :=
  ∀ (pc x n c : Nat) (M : xM) (v0 : Int32) (j : Int64) (loc : xL) (st rest : List Value) (ws : xH) (as : List Value) (pl : List Nat) (wc : xH) (PC : xPost), xnth Ms c = some M → xlk tb pc = some ((match M.2.2.2.2.2.2 with | true => .invokestatic x | false => .invokevirtual x), n, [(v0, c)], j) →
    st = (as.map (xrV pl)).reverse ++ rest → Nat.ble (xcat rest) 8 = true → va_nd pl = true → xsub pl wc ws → Cl c as wc PC → (∀ v wc', PC v wc' → wc'.length = wc.length → G (pc + 3) loc (v.toList ++ rest) (xput pl pl wc' ws)) → G pc loc st ws
/-- a method's contract, d frames deep: whatever is closed under its instructions holds at its entry -/
def xCt (Ms : List xM) : Nat → Nat → List Value → xH → xPost → Prop
  | 0, _, _, _, _ => False
  | d + 1, c, as, ws, Post => ∃ M : xM, xnth Ms c = some M ∧ (match M.2.2.2.2.2.2 with
      | true => (parseMethodDescriptor M.1.desc).map (fun q => q.parameters.length) = some as.length
      | false => ∃ (a ci : Nat) (fs : List Value) (r : List Value) (q : vw_C), as = .ref a :: r ∧ xnth ws a = some (.inr (ci, fs)) ∧ vwCl[ci]? = some q ∧ q.1 = M.1.cls ∧ (parseMethodDescriptor M.1.desc).map (fun q => q.parameters.length) = some r.length) ∧ Nat.ble (xsl as).length M.2.2.1 = true ∧
    ∀ G : xK, xG1 M.2.2.2.2.1 G → xG2 M.2.2.2.2.1 M.2.2.2.1 Post G → xG3 Ms M.2.2.2.2.1 (xCt Ms d) G → G 0 (xent as M.2.2.1) [] ws
theorem xwp_go {tb : xT} {G : xK} (hG : xG1 tb G) (stops : List Nat) : ∀ (f pc : Nat) (loc : xL) (st : List Value) (ws : xH), xwp tb stops G f pc loc st ws → G pc loc st ws := by
  intro f
  induction f with
  | zero => intro pc loc st ws h; exact h
  | succ f ih =>
    intro pc loc st ws h
    unfold xwp at h
    split at h
    · exact h.elim
    next i hi =>
      refine hG pc i loc st ws _ hi (fun pc' loc' st' ws' h' => ?_) h
      split at h'
      · exact h'
      · exact ih _ _ _ _ h'
