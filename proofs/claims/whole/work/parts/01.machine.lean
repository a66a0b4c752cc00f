/-! LAYER 0: a small machine over an abstract heap. Ints and longs are Int; a cell is a number; a heap is a shape (cells, slots made so far, tag and length of each cell, references) and two functions for ints and longs. -/
abbrev mVal : Type := Int ⊕ Int ⊕ Option Nat
abbrev vi (x : Int) : mVal := .inl x
abbrev vl (x : Int) : mVal := .inr (.inl x)
abbrev vr (c : Nat) : mVal := .inr (.inr (some c))
abbrev mLoc : Type := List (Option mVal)
abbrev mSh : Type := Nat × Nat × (Nat → Nat × Nat) × (Nat → Nat → Option Nat)
abbrev mSg : Type := mSh × (Nat → Nat → Int) × (Nat → Nat → Int)
abbrev mAux : Type := Nat × Nat × Nat × Int
abbrev mOut : Type := Option mVal × mSg
abbrev mIn : Type := Instr × mAux
def wr (x : Int) : Int := x.bmod 4294967296
def wl (x : Int) : Int := x.bmod 18446744073709551616
def mtg (σ : mSg) (c : Nat) : Nat × Nat := if c < σ.1.1 then σ.1.2.2.1 c else (99, 0)
def up2 {α : Type} (f : Nat → Nat → α) (c k : Nat) (v : α) : Nat → Nat → α := fun c' k' => if c' = c ∧ k' = k then v else f c' k'
def gI (σ : mSg) (c k : Nat) : Int := σ.2.1 c k
def gJ (σ : mSg) (c k : Nat) : Int := σ.2.2 c k
def gR (σ : mSg) (c k : Nat) : Option Nat := σ.1.2.2.2 c k
def sI (σ : mSg) (c k : Nat) (v : Int) : mSg := (σ.1, up2 σ.2.1 c k v, σ.2.2)
def sJ (σ : mSg) (c k : Nat) (v : Int) : mSg := (σ.1, σ.2.1, up2 σ.2.2 c k v)
def sR (σ : mSg) (c k : Nat) (v : Nat) : mSg := ((σ.1.1, σ.1.2.1, σ.1.2.2.1, up2 σ.1.2.2.2 c k (some v)), σ.2.1, σ.2.2)
/-- a new cell of a tag and a length, all its places 0 or null -/
def nwc (σ : mSg) (t n : Nat) : mSg := ((σ.1.1 + 1, σ.1.2.1 + n, (fun c => if c = σ.1.1 then (t, n) else σ.1.2.2.1 c), (fun c k => if c = σ.1.1 then none else σ.1.2.2.2 c k)), (fun c k => if c = σ.1.1 then 0 else σ.2.1 c k), (fun c k => if c = σ.1.1 then 0 else σ.2.2 c k))
/-- n places of one row laid into another -/
def cpy {α : Type} (f : Nat → Nat → α) (c0 c1 sp dp n : Nat) : Nat → Nat → α := fun c k => if c = c1 ∧ dp ≤ k ∧ k < dp + n then f c0 (sp + (k - dp)) else f c k
def cpI (σ : mSg) (c0 c1 sp dp n : Nat) : mSg := (σ.1, cpy σ.2.1 c0 c1 sp dp n, σ.2.2)
def cpJ (σ : mSg) (c0 c1 sp dp n : Nat) : mSg := (σ.1, σ.2.1, cpy σ.2.2 c0 c1 sp dp n)
def oi (a : Int) : Int32 := Int32.ofInt a
def ol (a : Int) : Int64 := Int64.ofInt a
def iand (a b : Int) : Int := (oi a &&& oi b).toInt
def ior (a b : Int) : Int := (oi a ||| oi b).toInt
def ixor (a b : Int) : Int := (oi a ^^^ oi b).toInt
def ishl (a b : Int) : Int := (oi a <<< (oi b &&& 31)).toInt
def ishr (a b : Int) : Int := (oi a >>> (oi b &&& 31)).toInt
def iushr (a b : Int) : Int := ((oi a).toUInt32 >>> ((oi b).toUInt32 &&& Int32.toUInt32 31)).toInt32.toInt
def i2b (a : Int) : Int := a.bmod 256
def i2s (a : Int) : Int := a.bmod 65536
def land (a b : Int) : Int := (ol a &&& ol b).toInt
def lor (a b : Int) : Int := (ol a ||| ol b).toInt
def lshl (a b : Int) : Int := (ol a <<< ((oi b).toInt64 &&& 63)).toInt
def lcmpI (a b : Int) : Int := if a < b then -1 else if a = b then 0 else 1
/-- a store of one slot; 'lg': the method has longs among its locals -/
def sto1 (lg : Bool) (L : mLoc) (k : Nat) (v : mVal) : mLoc := match lg with
  | false => L.set k (some v)
  | true => match k with
    | 0 => L.set 0 (some v)
    | j + 1 => match L[j]? with
      | some (some (.inr (.inl _))) => (L.set j none).set (j + 1) (some v)
      | _ => L.set (j + 1) (some v)
/-- a store of two slots -/
def sto2 (L : mLoc) (k : Nat) (v : mVal) : mLoc := match k with
  | 0 => (L.set 1 none).set 0 (some v)
  | j + 1 => match L[j]? with
    | some (some (.inr (.inl _))) => ((L.set j none).set (j + 2) none).set (j + 1) (some v)
    | _ => (L.set (j + 2) none).set (j + 1) (some v)
def mcat : mVal → Nat
  | .inr (.inl _) => 2
  | _ => 1
def mcats (st : List mVal) : Nat := (st.map mcat).sum
def mtgt (pc : Nat) (off : Int) : Nat := ((pc : Int) + off).toNat
def mlkK {α : Type} (d a : Int) (k : Int → α) : List (Int × Int) → α
  | [] => k d
  | (a0, o) :: r => if a = a0 then k o else mlkK d a k r
def mtbK {α : Type} (a : Int) (df : α) (k : Int → α) : List Int → Int → α
  | [], _ => df
  | o :: r, lo => if a = lo then k o else mtbK a df k r (lo + 1)
theorem mlkK_nat {α β : Type} (h : α → β) (d a : Int) (k : Int → α) : ∀ ps : List (Int × Int), h (mlkK d a k ps) = mlkK d a (fun o => h (k o)) ps
  | [] => rfl
  | (a0, o) :: r => by
    unfold mlkK
    split
    · rfl
    · exact mlkK_nat h d a k r
theorem mtbK_nat {α β : Type} (h : α → β) (a : Int) (df : α) (k : Int → α) : ∀ (ps : List Int) (lo : Int), h (mtbK a df k ps lo) = mtbK a (h df) (fun o => h (k o)) ps lo
  | [], _ => rfl
  | o :: r, lo => by
    unfold mtbK
    split
    · rfl
    · exact mtbK_nat h a df k r (lo + 1)
def mlen : Instr → Nat
  | .aaload | .aastore | .aload_n _ | .arraylength | .astore_n _ | .baload | .bastore | .dup | .dup_x1 | .dup2 | .i2b | .i2l | .i2s | .iadd | .iaload | .iand | .iastore | .iconst _ | .idiv | .iload_n _ | .imul | .ineg | .ior | .irem | .ireturn | .ishl | .ishr | .istore_n _ | .isub | .iushr | .ixor | .l2i | .ladd | .laload | .land | .lastore | .lcmp | .lconst _ | .lload_n _ | .lmul | .lor | .lreturn | .lshl | .pop | .return_ | .saload | .sastore => 1
  | .aload _ | .astore _ | .bipush _ | .iload _ | .istore _ | .ldc _ | .lload _ | .lstore _ | .newarray _ => 2
  | .anewarray _ | .getfield _ | .getstatic _ | .goto _ | .if_icmp _ _ | .ifCond _ _ | .iinc _ _ | .invokespecial _ | .invokestatic _ | .invokevirtual _ | .ldc_w _ | .ldc2_w _ | .new _ | .putfield _ | .sipush _ => 3
  | _ => 0
def mtok (pc : Nat) (off : Int) : Bool := decide (0 ≤ (pc : Int) + off)
/-- what decode gives besides: lengths, ranges of constants, targets -/
def mrng (pc : Nat) : Instr → Bool
  | .iconst n => decide (-128 ≤ n) && decide (n < 128)
  | .bipush n => decide (-128 ≤ n) && decide (n < 128)
  | .sipush n => decide (-32768 ≤ n) && decide (n < 32768)
  | .goto off => mtok pc off
  | .ifCond _ off => mtok pc off
  | .if_icmp _ off => mtok pc off
  | .tableswitch d lo hi offs => mtok pc d && offs.toList.all (mtok pc) && decide ((offs.toList.length : Int) = hi - lo + 1)
  | .lookupswitch d ps => mtok pc d && ps.toList.all (fun q => mtok pc q.2) && (ps.toList.zip (ps.toList.drop 1)).all (fun (a, next) => a.1 < next.1)
  | _ => true
def msw : Instr → Bool
  | .tableswitch _ _ _ _ => true
  | .lookupswitch _ _ => true
  | _ => false
/-- ONE INSTRUCTION, in continuation style: what it does where it fails (fl), goes on (nx), calls (ca: method, arguments, where to go on, locals, rest of the stack, heap), ends (re). rt: the method's kind of answer (0 void, 1 int, 2 boolean, 3 long); ini: it is a constructor of class ini - 1 (0: none); lg: it has long locals; x: what the constant pool says -/
def stepI {α : Type} (fl : α) (nx : Nat → mLoc → List mVal → mSg → α) (ca : Nat → List mVal → Nat → mLoc → List mVal → mSg → α) (re : Option mVal → mSg → α) (rt ini : Nat) (lg : Bool) (x : mAux) (i : Instr) (pc : Nat) (L : mLoc) (st : List mVal) (σ : mSg) : α :=
  match i with
  | .iconst n => nx (pc + 1) L (vi n :: st) σ
  | .bipush n => nx (pc + 2) L (vi n :: st) σ
  | .sipush n => nx (pc + 3) L (vi n :: st) σ
  | .ldc _ => if x.1 = 40 then nx (pc + 2) L (vi x.2.2.2 :: st) σ else fl
  | .ldc_w _ => if x.1 = 40 then nx (pc + 3) L (vi x.2.2.2 :: st) σ else fl
  | .ldc2_w _ => if x.1 = 41 then nx (pc + 3) L (vl x.2.2.2 :: st) σ else fl
  | .lconst n => nx (pc + 1) L (vl (n : Nat) :: st) σ
  | .iload_n k => match L[(k : Nat)]? with
    | some (some (.inl a)) => nx (pc + 1) L (vi a :: st) σ
    | _ => fl
  | .iload k => match L[k]? with
    | some (some (.inl a)) => nx (pc + 2) L (vi a :: st) σ
    | _ => fl
  | .lload_n k => match L[(k : Nat)]? with
    | some (some (.inr (.inl a))) => nx (pc + 1) L (vl a :: st) σ
    | _ => fl
  | .lload k => match L[k]? with
    | some (some (.inr (.inl a))) => nx (pc + 2) L (vl a :: st) σ
    | _ => fl
  | .aload_n k => match L[(k : Nat)]? with
    | some (some (.inr (.inr (some c)))) => nx (pc + 1) L (vr c :: st) σ
    | _ => fl
  | .aload k => match L[k]? with
    | some (some (.inr (.inr (some c)))) => nx (pc + 2) L (vr c :: st) σ
    | _ => fl
  | .istore_n k => match st with
    | .inl a :: r => if (k : Nat) < L.length then nx (pc + 1) (sto1 lg L k (vi a)) r σ else fl
    | _ => fl
  | .istore k => match st with
    | .inl a :: r => if k < L.length then nx (pc + 2) (sto1 lg L k (vi a)) r σ else fl
    | _ => fl
  | .astore_n k => match st with
    | .inr (.inr (some c)) :: r => if (k : Nat) < L.length then nx (pc + 1) (sto1 lg L k (vr c)) r σ else fl
    | _ => fl
  | .astore k => match st with
    | .inr (.inr (some c)) :: r => if k < L.length then nx (pc + 2) (sto1 lg L k (vr c)) r σ else fl
    | _ => fl
  | .lstore k => match lg, st with
    | true, .inr (.inl a) :: r => if k + 1 < L.length then nx (pc + 2) (sto2 L k (vl a)) r σ else fl
    | _, _ => fl
  | .iinc k n => match L[k]? with
    | some (some (.inl a)) => nx (pc + 3) (sto1 lg L k (vi (wr (a + n)))) st σ
    | _ => fl
  | .iadd => match st with
    | .inl b :: .inl a :: r => nx (pc + 1) L (vi (wr (a + b)) :: r) σ
    | _ => fl
  | .isub => match st with
    | .inl b :: .inl a :: r => nx (pc + 1) L (vi (wr (a - b)) :: r) σ
    | _ => fl
  | .imul => match st with
    | .inl b :: .inl a :: r => nx (pc + 1) L (vi (wr (a * b)) :: r) σ
    | _ => fl
  | .idiv => match st with
    | .inl b :: .inl a :: r => if b = 0 then fl else nx (pc + 1) L (vi (wr (a.tdiv b)) :: r) σ
    | _ => fl
  | .irem => match st with
    | .inl b :: .inl a :: r => if b = 0 then fl else nx (pc + 1) L (vi (a.tmod b) :: r) σ
    | _ => fl
  | .ineg => match st with
    | .inl a :: r => nx (pc + 1) L (vi (wr (- a)) :: r) σ
    | _ => fl
  | .iand => match st with
    | .inl b :: .inl a :: r => nx (pc + 1) L (vi (iand a b) :: r) σ
    | _ => fl
  | .ior => match st with
    | .inl b :: .inl a :: r => nx (pc + 1) L (vi (ior a b) :: r) σ
    | _ => fl
  | .ixor => match st with
    | .inl b :: .inl a :: r => nx (pc + 1) L (vi (ixor a b) :: r) σ
    | _ => fl
  | .ishl => match st with
    | .inl b :: .inl a :: r => nx (pc + 1) L (vi (ishl a b) :: r) σ
    | _ => fl
  | .ishr => match st with
    | .inl b :: .inl a :: r => nx (pc + 1) L (vi (ishr a b) :: r) σ
    | _ => fl
  | .iushr => match st with
    | .inl b :: .inl a :: r => nx (pc + 1) L (vi (iushr a b) :: r) σ
    | _ => fl
  | .i2l => match st with
    | .inl a :: r => nx (pc + 1) L (vl a :: r) σ
    | _ => fl
  | .l2i => match st with
    | .inr (.inl a) :: r => nx (pc + 1) L (vi (wr a) :: r) σ
    | _ => fl
  | .i2b => match st with
    | .inl a :: r => nx (pc + 1) L (vi (i2b a) :: r) σ
    | _ => fl
  | .i2s => match st with
    | .inl a :: r => nx (pc + 1) L (vi (i2s a) :: r) σ
    | _ => fl
  | .ladd => match st with
    | .inr (.inl b) :: .inr (.inl a) :: r => nx (pc + 1) L (vl (wl (a + b)) :: r) σ
    | _ => fl
  | .lmul => match st with
    | .inr (.inl b) :: .inr (.inl a) :: r => nx (pc + 1) L (vl (wl (a * b)) :: r) σ
    | _ => fl
  | .land => match st with
    | .inr (.inl b) :: .inr (.inl a) :: r => nx (pc + 1) L (vl (land a b) :: r) σ
    | _ => fl
  | .lor => match st with
    | .inr (.inl b) :: .inr (.inl a) :: r => nx (pc + 1) L (vl (lor a b) :: r) σ
    | _ => fl
  | .lshl => match st with
    | .inl b :: .inr (.inl a) :: r => nx (pc + 1) L (vl (lshl a b) :: r) σ
    | _ => fl
  | .lcmp => match st with
    | .inr (.inl b) :: .inr (.inl a) :: r => nx (pc + 1) L (vi (lcmpI a b) :: r) σ
    | _ => fl
  | .dup => match st with
    | .inl a :: r => nx (pc + 1) L (vi a :: vi a :: r) σ
    | .inr (.inr (some c)) :: r => nx (pc + 1) L (vr c :: vr c :: r) σ
    | _ => fl
  | .pop => match st with
    | .inl _ :: r => nx (pc + 1) L r σ
    | .inr (.inr (some _)) :: r => nx (pc + 1) L r σ
    | _ => fl
  | .dup_x1 => match st with
    | .inl a :: .inr (.inr (some c)) :: r => nx (pc + 1) L (vi a :: vr c :: vi a :: r) σ
    | .inl a :: .inl b :: r => nx (pc + 1) L (vi a :: vi b :: vi a :: r) σ
    | _ => fl
  | .dup2 => match st with
    | .inl a :: .inr (.inr (some c)) :: r => nx (pc + 1) L (vi a :: vr c :: vi a :: vr c :: r) σ
    | .inl a :: .inl b :: r => nx (pc + 1) L (vi a :: vi b :: vi a :: vi b :: r) σ
    | _ => fl
  | .goto off => nx (mtgt pc off) L st σ
  | .ifCond c off => match st with
    | .inl a :: r => match c with
        | .eq => if a = 0 then nx (mtgt pc off) L r σ else nx (pc + 3) L r σ
        | .ne => if a = 0 then nx (pc + 3) L r σ else nx (mtgt pc off) L r σ
        | .lt => if a < 0 then nx (mtgt pc off) L r σ else nx (pc + 3) L r σ
        | .ge => if a < 0 then nx (pc + 3) L r σ else nx (mtgt pc off) L r σ
        | .gt => if 0 < a then nx (mtgt pc off) L r σ else nx (pc + 3) L r σ
        | .le => if 0 < a then nx (pc + 3) L r σ else nx (mtgt pc off) L r σ
    | _ => fl
  | .if_icmp c off => match st with
    | .inl b :: .inl a :: r => match c with
        | .eq => if a = b then nx (mtgt pc off) L r σ else nx (pc + 3) L r σ
        | .ne => if a = b then nx (pc + 3) L r σ else nx (mtgt pc off) L r σ
        | .lt => if a < b then nx (mtgt pc off) L r σ else nx (pc + 3) L r σ
        | .ge => if a < b then nx (pc + 3) L r σ else nx (mtgt pc off) L r σ
        | .gt => if b < a then nx (mtgt pc off) L r σ else nx (pc + 3) L r σ
        | .le => if b < a then nx (pc + 3) L r σ else nx (mtgt pc off) L r σ
    | _ => fl
  | .tableswitch d lo _ offs => match st with
    | .inl a :: r => mtbK a (nx (mtgt pc d) L r σ) (fun off => nx (mtgt pc off) L r σ) offs.toList lo
    | _ => fl
  | .lookupswitch d ps => match st with
    | .inl a :: r => mlkK d a (fun off => nx (mtgt pc off) L r σ) ps.toList
    | _ => fl
  | .getfield _ => match st with
    | .inr (.inr (some c)) :: r => if (mtg σ c).1 = x.2.1 then
        match x.1 with
        | 1 => nx (pc + 3) L (vi (gI σ c x.2.2.1) :: r) σ
        | 2 => nx (pc + 3) L (vi (gI σ c x.2.2.1) :: r) σ
        | 3 => match gR σ c x.2.2.1 with
          | some q => nx (pc + 3) L (vr q :: r) σ
          | none => fl
        | _ => fl
      else fl
    | _ => fl
  | .putfield _ => match st with
    | .inl a :: .inr (.inr (some c)) :: r => if (mtg σ c).1 = x.2.1 ∧ 3 ≤ c then
        match x.1 with
        | 1 => if x.2.2.2 = 0 then nx (pc + 3) L r (sI σ c x.2.2.1 a) else fl
        | 2 => if x.2.2.2 = 0 ∧ (a = 0 ∨ a = 1) then nx (pc + 3) L r (sI σ c x.2.2.1 a) else fl
        | _ => fl
      else fl
    | .inr (.inr (some q)) :: .inr (.inr (some c)) :: r => if (mtg σ c).1 = x.2.1 ∧ 3 ≤ c then
        match x.1 with
        | 3 => if x.2.2.2 = 0 ∨ ini = x.2.1 + 1 then nx (pc + 3) L r (sR σ c x.2.2.1 q) else fl
        | _ => fl
      else fl
    | _ => fl
  | .getstatic _ => match x.1 with
    | 50 => nx (pc + 3) L (vr x.2.1 :: st) σ
    | _ => fl
  | .iaload => match st with
    | .inl a :: .inr (.inr (some c)) :: r => if (mtg σ c).1 = 20 ∨ (mtg σ c).1 = 30 then
        (if 0 ≤ a ∧ a < (mtg σ c).2 then nx (pc + 1) L (vi (gI σ c a.toNat) :: r) σ else fl) else fl
    | _ => fl
  | .saload => match st with
    | .inl a :: .inr (.inr (some c)) :: r => if (mtg σ c).1 = 21 then
        (if 0 ≤ a ∧ a < (mtg σ c).2 then nx (pc + 1) L (vi (gI σ c a.toNat) :: r) σ else fl) else fl
    | _ => fl
  | .baload => match st with
    | .inl a :: .inr (.inr (some c)) :: r => if (mtg σ c).1 = 22 then
        (if 0 ≤ a ∧ a < (mtg σ c).2 then nx (pc + 1) L (vi (gI σ c a.toNat) :: r) σ else fl) else fl
    | _ => fl
  | .laload => match st with
    | .inl a :: .inr (.inr (some c)) :: r => if (mtg σ c).1 = 23 then
        (if 0 ≤ a ∧ a < (mtg σ c).2 then nx (pc + 1) L (vl (gJ σ c a.toNat) :: r) σ else fl) else fl
    | _ => fl
  | .aaload => match st with
    | .inl a :: .inr (.inr (some c)) :: r => if (mtg σ c).1 = 24 then
        (if 0 ≤ a ∧ a < (mtg σ c).2 then
          match gR σ c a.toNat with
          | some q => nx (pc + 1) L (vr q :: r) σ
          | none => fl
        else fl) else fl
    | _ => fl
  | .iastore => match st with
    | .inl v :: .inl a :: .inr (.inr (some c)) :: r => if (mtg σ c).1 = 20 ∧ 3 ≤ c then
        (if 0 ≤ a ∧ a < (mtg σ c).2 then nx (pc + 1) L r (sI σ c a.toNat v) else fl) else fl
    | _ => fl
  | .sastore => match st with
    | .inl v :: .inl a :: .inr (.inr (some c)) :: r => if (mtg σ c).1 = 21 ∧ 3 ≤ c then
        (if 0 ≤ a ∧ a < (mtg σ c).2 then nx (pc + 1) L r (sI σ c a.toNat (i2s v)) else fl) else fl
    | _ => fl
  | .bastore => match st with
    | .inl v :: .inl a :: .inr (.inr (some c)) :: r => if (mtg σ c).1 = 22 ∧ 3 ≤ c then
        (if 0 ≤ a ∧ a < (mtg σ c).2 then nx (pc + 1) L r (sI σ c a.toNat (i2b v)) else fl) else fl
    | _ => fl
  | .lastore => match st with
    | .inr (.inl v) :: .inl a :: .inr (.inr (some c)) :: r => if (mtg σ c).1 = 23 ∧ 3 ≤ c then
        (if 0 ≤ a ∧ a < (mtg σ c).2 then nx (pc + 1) L r (sJ σ c a.toNat v) else fl) else fl
    | _ => fl
  | .aastore => match st with
    | .inr (.inr (some q)) :: .inl a :: .inr (.inr (some c)) :: r => if (mtg σ c).1 = 24 ∧ 3 ≤ c ∧ (mtg σ q).1 = 7 ∧ 3 ≤ q then
        (if 0 ≤ a ∧ a < (mtg σ c).2 then nx (pc + 1) L r (sR σ c a.toNat q) else fl) else fl
    | _ => fl
  | .arraylength => match st with
    | .inr (.inr (some c)) :: r => if 20 ≤ (mtg σ c).1 ∧ (mtg σ c).1 ≤ 30 then nx (pc + 1) L (vi (mtg σ c).2 :: r) σ else fl
    | _ => fl
  | .new _ => if x.1 = 30 ∧ σ.1.1 < 600000 ∧ 3 ≤ σ.1.1 then nx (pc + 3) L (vr σ.1.1 :: st) (nwc σ x.2.1 x.2.2.1) else fl
  | .newarray ty => match st with
    | .inl a :: r => if 0 ≤ a ∧ a < 100000 ∧ 3 ≤ σ.1.1 then
        match ty with
        | .int => nx (pc + 2) L (vr σ.1.1 :: r) (nwc σ 20 a.toNat)
        | .short => nx (pc + 2) L (vr σ.1.1 :: r) (nwc σ 21 a.toNat)
        | .byte => nx (pc + 2) L (vr σ.1.1 :: r) (nwc σ 22 a.toNat)
        | .long => nx (pc + 2) L (vr σ.1.1 :: r) (nwc σ 23 a.toNat)
        | _ => fl
      else fl
    | _ => fl
  | .anewarray _ => match st with
    | .inl a :: r => if x.1 = 30 ∧ x.2.1 = 7 ∧ 0 ≤ a ∧ a < 100000 ∧ 3 ≤ σ.1.1 then nx (pc + 3) L (vr σ.1.1 :: r) (nwc σ 24 a.toNat) else fl
    | _ => fl
  | .invokevirtual _ => if x.1 = 10 ∧ mcats (st.drop (x.2.2.1 + 1)) ≤ 8 then
      match (st.drop x.2.2.1) with
      | .inr (.inr (some c)) :: r => if ((mtg σ c).1 : Int) = x.2.2.2 then ca x.2.1 (vr c :: (st.take x.2.2.1).reverse) (pc + 3) L r σ else fl
      | _ => fl
    else fl
  | .invokespecial _ => match x.1 with
    | 16 => match st with
      | .inr (.inr (some _)) :: r => if mcats r ≤ 8 then nx (pc + 3) L r σ else fl
      | _ => fl
    | 12 => if mcats (st.drop (x.2.2.1 + 1)) ≤ 8 then
        match (st.drop x.2.2.1) with
        | .inr (.inr (some c)) :: r => ca x.2.1 (vr c :: (st.take x.2.2.1).reverse) (pc + 3) L r σ
        | _ => fl
      else fl
    | _ => fl
  | .invokestatic _ => match x.1 with
    | 11 => if mcats (st.drop x.2.2.1) ≤ 8 ∧ x.2.2.1 ≤ st.length then ca x.2.1 (st.take x.2.2.1).reverse (pc + 3) L (st.drop x.2.2.1) σ else fl
    | 17 => match st with
      | .inl a :: r => if mcats r ≤ 8 then nx (pc + 3) L (vi (if 0 ≤ a then a else wr (0 - a)) :: r) σ else fl
      | _ => fl
    | 18 => match st with
      | .inl b :: .inl a :: r => if mcats r ≤ 8 then nx (pc + 3) L (vi (if a < b then b else a) :: r) σ else fl
      | _ => fl
    | 19 => match st with
      | .inl b :: .inl a :: r => if mcats r ≤ 8 then nx (pc + 3) L (vi (if b < a then b else a) :: r) σ else fl
      | _ => fl
    | 20 => match st with
      | .inl n :: .inl dp :: .inr (.inr (some c1)) :: .inl sp :: .inr (.inr (some c0)) :: r =>
        if mcats r ≤ 8 ∧ 3 ≤ c0 ∧ 3 ≤ c1 ∧ (mtg σ c0).1 = (mtg σ c1).1 then
          (if 0 ≤ n ∧ 0 ≤ dp ∧ 0 ≤ sp ∧ sp + n ≤ (mtg σ c0).2 ∧ dp + n ≤ (mtg σ c1).2 then
            match (mtg σ c1).1 with
            | 20 => nx (pc + 3) L r (cpI σ c0 c1 sp.toNat dp.toNat n.toNat)
            | 23 => nx (pc + 3) L r (cpJ σ c0 c1 sp.toNat dp.toNat n.toNat)
            | _ => fl
          else fl) else fl
      | _ => fl
    | _ => fl
  | .ireturn => match st with
    | [.inl a] => match rt with
      | 1 => re (some (vi a)) σ
      | 2 => if a = 0 ∨ a = 1 then re (some (vi a)) σ else fl
      | _ => fl
    | _ => fl
  | .lreturn => match st with
    | [.inr (.inl a)] => match rt with
      | 3 => re (some (vl a)) σ
      | _ => fl
    | _ => fl
  | .return_ => match st with
    | [] => match rt with
      | 0 => re none σ
      | _ => fl
    | _ => fl
  | _ => fl
