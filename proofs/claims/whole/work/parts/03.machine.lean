/-! A SMALL MACHINE over typed rows, and its least predicate WP. -/
abbrev mS : Type := Nat × (Nat → Nat) × (Nat → Nat)
abbrev mI : Type := Nat → Nat → Int32
abbrev mL : Type := Nat → Nat → Int64
abbrev mR : Type := Nat → Nat → Option Nat
abbrev mV : Type := List (Option Value)
abbrev mB : Type := Nat × Nat × Nat
abbrev mSt : Type := mB × Nat × mV × List Value × mS × mI × mL × mR
abbrev mRes : Type := mSt ⊕ (Option Value) ⊕ (Nat × List Value × List Value)
abbrev mQ : Type := Option Value → mS → mI → mL → mR → Prop
/-- the kind of a cell: below 13 an object, 100 int[], 101 long[], 102 byte[], 103 State[], 104 Stance[], 110 the script, 200 201 the String constants -/
def kd (S : mS) (a : Nat) : Nat := S.2.1 a
def ln (S : mS) (a : Nat) : Nat := S.2.2 a
def cw (st : List Value) : Nat := (st.map fun v => v.category).sum
/-- cells and slots that a method may make -/
def mcs (k : Nat) : Nat × Nat := if (mY k).name = "<init>" then (match mO k with | 0 => (600, 20000) | 2 => (60, 2000) | 10 => (60, 2000) | 12 => (60, 20000) | _ => (10, 400)) else (0, 0)
def kl (o : Option Value) : Option Value := match o with
  | some (.long _) => none
  | some (.double _) => none
  | x => x
def kla (ls : mV) (i : Nat) : mV := match ls[i]? with
  | some o => ls.set i (kl o)
  | none => ls
def klb (ls : mV) (j : Nat) : mV := match j with
  | 0 => ls
  | i + 1 => kla ls i
def ls1 (ls : mV) (j : Nat) (v : Value) : mV := (klb ls j).set j (some v)
def ls2 (ls : mV) (j : Nat) (v : Value) : mV := ((klb ls j).set j (some v)).set (j + 1) none
def lg (ls : mV) (j : Nat) : Option Value := match ls[j]? with
  | some (some v) => some v
  | _ => none
/-- the locals at a method's entry -/
def lsa : List Value → mV
  | [] => []
  | v :: vs => if v.category = 2 then some v :: none :: lsa vs else some v :: lsa vs
def lse (n : Nat) (vs : List Value) : mV := lsa vs ++ List.replicate (n - (lsa vs).length) none
def jmp (pc : Nat) (off : Int) : Option Nat := if 0 ≤ (pc : Int) + off then some ((pc : Int) + off).toNat else none
def fv (ci f a : Nat) (I : mI) (L : mL) (R : mR) : Value := match fY ci f with
  | .long => .long (L a f)
  | .object _ => va_rf (R a f)
  | .array _ => va_rf (R a f)
  | _ => .int (I a f)
def cnd (c : Jvm.ClassFile.Cond) (x y : Int32) : Bool := match c with
  | .eq => decide (x = y)
  | .ne => decide (¬ x = y)
  | .lt => decide (x < y)
  | .ge => decide (y ≤ x)
  | .gt => decide (y < x)
  | .le => decide (x ≤ y)
/-- the target of a tableswitch -/
def tsw (dflt lo hi : Int) (offs : Array Int) (x : Int32) : Option Int := if x.toInt < lo ∨ hi < x.toInt then some dflt else offs[(x.toInt - lo).toNat]?
/-- the chars of the String constants -/
def strW : String := "marsh by skin soft deep mends cell odds firm walker at to weight reach long load step stand hand any when fallen home loop end stop "
def strK : String := " marsh mends cell firm walker by skin soft deep odds at to weight reach long load step stand hand any when loop end stop fallen home "
def strC (i : Nat) : List Nat := (if i = 0 then strW else strK).toList.map Char.toNat
def isFin (ci f : Nat) : Bool := match cls[ci]? with
  | some q => (q.2.1 f).2.2.2
  | none => true
def isRT (t : FieldType) : Bool := match t with
  | .object _ => true
  | .array _ => true
  | _ => false
/-- may this method put that field -/
def putOK (k ci f : Nat) : Bool := !isFin ci f || ((mY k).name == "<init>" && Nat.beq (mO k) ci)
section MX
variable (k n : Nat) (ρ : mB) (pc : Nat) (ls : mV) (st : List Value) (S : mS) (I : mI) (L : mL) (R : mR)
def nx (pc : Nat) (ls : mV) (st : List Value) : Option mRes := some (.inl (ρ, pc, ls, st, S, I, L, R))
def jx (pc : Nat) (off : Int) (st : List Value) : Option mRes := match jmp pc off with
  | some t => some (.inl (ρ, t, ls, st, S, I, L, R))
  | none => none
def xPush (len : Nat) (v : Value) : Option mRes := if n = len then nx ρ S I L R (pc + len) ls (v :: st) else none
def xLoadI (len j : Nat) : Option mRes := match lg ls j with
  | some (.int x) => if n = len then nx ρ S I L R (pc + len) ls (.int x :: st) else none
  | _ => none
def xLoadL (len j : Nat) : Option mRes := match lg ls j with
  | some (.long x) => if n = len then nx ρ S I L R (pc + len) ls (.long x :: st) else none
  | _ => none
def xLoadA (len j : Nat) : Option mRes := match lg ls j with
  | some (.ref x) => if n = len then nx ρ S I L R (pc + len) ls (.ref x :: st) else none
  | _ => none
def xStoreI (len j : Nat) : Option mRes := match st with
  | .int x :: t => if n = len ∧ j < mN k then nx ρ S I L R (pc + len) (ls1 ls j (.int x)) t else none
  | _ => none
def xStoreA (len j : Nat) : Option mRes := match st with
  | .ref x :: t => if n = len ∧ j < mN k then nx ρ S I L R (pc + len) (ls1 ls j (.ref x)) t else none
  | _ => none
def xStoreL (len j : Nat) : Option mRes := match st with
  | .long x :: t => if n = len ∧ j + 1 < mN k then nx ρ S I L R (pc + len) (ls2 ls j (.long x)) t else none
  | _ => none
def xII (f : Int32 → Int32 → Int32) : Option mRes := match st with
  | .int y :: .int x :: t => if n = 1 then nx ρ S I L R (pc + 1) ls (.int (f x y) :: t) else none
  | _ => none
def xIId (f : Int32 → Int32 → Int32) : Option mRes := match st with
  | .int y :: .int x :: t => if n = 1 ∧ ¬ y = 0 then nx ρ S I L R (pc + 1) ls (.int (f x y) :: t) else none
  | _ => none
def xI (f : Int32 → Int32) : Option mRes := match st with
  | .int x :: t => if n = 1 then nx ρ S I L R (pc + 1) ls (.int (f x) :: t) else none
  | _ => none
def xLL (f : Int64 → Int64 → Int64) : Option mRes := match st with
  | .long y :: .long x :: t => if n = 1 then nx ρ S I L R (pc + 1) ls (.long (f x y) :: t) else none
  | _ => none
def xLLd (f : Int64 → Int64 → Int64) : Option mRes := match st with
  | .long y :: .long x :: t => if n = 1 ∧ ¬ y = 0 then nx ρ S I L R (pc + 1) ls (.long (f x y) :: t) else none
  | _ => none
def xLI (f : Int64 → Int32 → Int64) : Option mRes := match st with
  | .int y :: .long x :: t => if n = 1 then nx ρ S I L R (pc + 1) ls (.long (f x y) :: t) else none
  | _ => none
def xI2L : Option mRes := match st with
  | .int x :: t => if n = 1 then nx ρ S I L R (pc + 1) ls (.long x.toInt64 :: t) else none
  | _ => none
def xL2I : Option mRes := match st with
  | .long x :: t => if n = 1 then nx ρ S I L R (pc + 1) ls (.int x.toInt32 :: t) else none
  | _ => none
def xLcmp : Option mRes := match st with
  | .long y :: .long x :: t => if n = 1 then nx ρ S I L R (pc + 1) ls (.int (lg_cmp x y) :: t) else none
  | _ => none
def xDup : Option mRes := match st with
  | v :: t => if n = 1 ∧ v.category = 1 then nx ρ S I L R (pc + 1) ls (v :: v :: t) else none
  | _ => none
def xDup2 : Option mRes := match st with
  | v :: w :: t => if n = 1 ∧ v.category = 1 ∧ w.category = 1 then nx ρ S I L R (pc + 1) ls (v :: w :: v :: w :: t) else none
  | _ => none
def xPop : Option mRes := match st with
  | v :: t => if n = 1 ∧ v.category = 1 then nx ρ S I L R (pc + 1) ls t else none
  | _ => none
def xIf (c : Jvm.ClassFile.Cond) (off : Int) : Option mRes := match st with
  | .int x :: t => (match jmp pc off with
    | some tg => if n = 3 then nx ρ S I L R (if cnd c x 0 = true then tg else pc + 3) ls t else none
    | none => none)
  | _ => none
def xIcmp (c : Jvm.ClassFile.Cond) (off : Int) : Option mRes := match st with
  | .int y :: .int x :: t => (match jmp pc off with
    | some tg => if n = 3 then nx ρ S I L R (if cnd c x y = true then tg else pc + 3) ls t else none
    | none => none)
  | _ => none
def xTsw (dflt lo hi : Int) (offs : Array Int) : Option mRes := match st with
  | .int x :: t => (match tsw dflt lo hi offs x with
    | some off => jx ρ ls S I L R pc off t
    | none => none)
  | _ => none
def xLsw (dflt : Int) (ps : Array (Int × Int)) : Option mRes := match st with
  | .int x :: t => if (ps.toList.zip (ps.toList.drop 1)).all (fun (a, next) => a.1 < next.1) = true then jx ρ ls S I L R pc (Op.lookupswitch.offset ps.toList dflt x.toInt) t else none
  | _ => none
def xGet (j : Nat) : Option mRes := match st with
  | .ref a :: t => (match gM (mO k) j with
    | some (ci, f) => if n = 3 ∧ kd S a = ci then nx ρ S I L R (pc + 3) ls (fv ci f a I L R :: t) else none
    | none => none)
  | _ => none
def xPut (j : Nat) : Option mRes := match st with
  | .int x :: .ref a :: t => (match gM (mO k) j with
    | some (ci, f) => if n = 3 ∧ kd S a = ci ∧ putOK k ci f = true ∧ (fY ci f = .int ∨ (fY ci f = .boolean ∧ (x = 0 ∨ x = 1))) then nx ρ S (va_up I a (va_up (I a) f x)) L R (pc + 3) ls t else none
    | none => none)
  | .long x :: .ref a :: t => (match gM (mO k) j with
    | some (ci, f) => if n = 3 ∧ kd S a = ci ∧ putOK k ci f = true ∧ fY ci f = .long then nx ρ S I (va_up L a (va_up (L a) f x)) R (pc + 3) ls t else none
    | none => none)
  | .ref x :: .ref a :: t => (match gM (mO k) j with
    | some (ci, f) => if n = 3 ∧ kd S a = ci ∧ putOK k ci f = true ∧ isRT (fY ci f) = true then nx ρ S I L (va_up R a (va_up (R a) f (some x))) (pc + 3) ls t else none
    | none => none)
  | _ => none
def xIald : Option mRes := match st with
  | .int i :: .ref a :: t => if n = 1 ∧ (kd S a = 100 ∨ kd S a = 110) ∧ ¬ (i < 0 ∨ ln S a ≤ i.toNatClampNeg) then nx ρ S I L R (pc + 1) ls (.int (I a i.toNatClampNeg) :: t) else none
  | _ => none
def xBald : Option mRes := match st with
  | .int i :: .ref a :: t => if n = 1 ∧ kd S a = 102 ∧ ¬ (i < 0 ∨ ln S a ≤ i.toNatClampNeg) then nx ρ S I L R (pc + 1) ls (.int (I a i.toNatClampNeg) :: t) else none
  | _ => none
def xLald : Option mRes := match st with
  | .int i :: .ref a :: t => if n = 1 ∧ kd S a = 101 ∧ ¬ (i < 0 ∨ ln S a ≤ i.toNatClampNeg) then nx ρ S I L R (pc + 1) ls (.long (L a i.toNatClampNeg) :: t) else none
  | _ => none
def xAald : Option mRes := match st with
  | .int i :: .ref a :: t => if n = 1 ∧ (kd S a = 103 ∨ kd S a = 104) ∧ ¬ (i < 0 ∨ ln S a ≤ i.toNatClampNeg) then nx ρ S I L R (pc + 1) ls (va_rf (R a i.toNatClampNeg) :: t) else none
  | _ => none
def xIast : Option mRes := match st with
  | .int x :: .int i :: .ref a :: t => if n = 1 ∧ kd S a = 100 ∧ ¬ (i < 0 ∨ ln S a ≤ i.toNatClampNeg) then nx ρ S (va_up I a (va_up (I a) i.toNatClampNeg x)) L R (pc + 1) ls t else none
  | _ => none
def xBast : Option mRes := match st with
  | .int x :: .int i :: .ref a :: t => if n = 1 ∧ kd S a = 102 ∧ ¬ (i < 0 ∨ ln S a ≤ i.toNatClampNeg) then nx ρ S (va_up I a (va_up (I a) i.toNatClampNeg x.toInt8.toInt32)) L R (pc + 1) ls t else none
  | _ => none
def xLast : Option mRes := match st with
  | .long x :: .int i :: .ref a :: t => if n = 1 ∧ kd S a = 101 ∧ ¬ (i < 0 ∨ ln S a ≤ i.toNatClampNeg) then nx ρ S I (va_up L a (va_up (L a) i.toNatClampNeg x)) R (pc + 1) ls t else none
  | _ => none
def xAast : Option mRes := match st with
  | .ref x :: .int i :: .ref a :: t => if n = 1 ∧ ((kd S a = 103 ∧ kd S x = 2) ∨ (kd S a = 104 ∧ kd S x = 5)) ∧ ¬ (i < 0 ∨ ln S a ≤ i.toNatClampNeg) then nx ρ S I L (va_up R a (va_up (R a) i.toNatClampNeg (some x))) (pc + 1) ls t else none
  | _ => none
def xAlen : Option mRes := match st with
  | .ref a :: t => if n = 1 ∧ (kd S a = 100 ∨ kd S a = 101 ∨ kd S a = 102 ∨ kd S a = 103 ∨ kd S a = 104 ∨ kd S a = 110) then nx ρ S I L R (pc + 1) ls (.int (Int32.ofNat (ln S a)) :: t) else none
  | _ => none
/-- the heap with one cell more -/
def mk (pc : Nat) (st : List Value) (c l sl : Nat) : Option mRes := if 1 ≤ ρ.2.1 ∧ sl ≤ ρ.2.2 then some (.inl ((ρ.1, ρ.2.1 - 1, ρ.2.2 - sl), pc, ls, .ref S.1 :: st, (S.1 + 1, va_up S.2.1 S.1 c, va_up S.2.2 S.1 l), va_up I S.1 (fun _ => 0), va_up L S.1 (fun _ => 0), va_up R S.1 (fun _ => none))) else none
def xNew (j : Nat) : Option mRes := match nM (mO k) j with
  | some ci => if n = 3 then mk ρ ls S I L R (pc + 3) st ci 0 (cF ci) else none
  | none => none
def xNewa (t : ArrayType) : Option mRes := match st with
  | .int x :: r => if n = 2 ∧ ¬ x < 0 ∧ x.toNatClampNeg ≤ 10000 then (match t with
    | .int => mk ρ ls S I L R (pc + 2) r 100 x.toNatClampNeg x.toNatClampNeg
    | .long => mk ρ ls S I L R (pc + 2) r 101 x.toNatClampNeg x.toNatClampNeg
    | .byte => mk ρ ls S I L R (pc + 2) r 102 x.toNatClampNeg x.toNatClampNeg
    | _ => none) else none
  | _ => none
def xANew (j : Nat) : Option mRes := match st with
  | .int x :: r => if n = 3 ∧ ¬ x < 0 ∧ x.toNatClampNeg ≤ 10000 then (match nM (mO k) j with
    | some 2 => mk ρ ls S I L R (pc + 3) r 103 x.toNatClampNeg x.toNatClampNeg
    | some 5 => mk ρ ls S I L R (pc + 3) r 104 x.toNatClampNeg x.toNatClampNeg
    | _ => none) else none
  | _ => none
/-- a call: the callee, its arguments, what is left -/
def cl (k' : Nat) (as rest : List Value) : Option mRes := if 1 ≤ ρ.1 ∧ (mcs k').1 ≤ ρ.2.1 ∧ (mcs k').2 ≤ ρ.2.2 ∧ cw rest ≤ 8 ∧ (lsa as).length ≤ mN k' then some (.inr (.inr (k', as, rest))) else none
def xV0 (k' na : Nat) : Option mRes := match st.drop na with
  | .ref b :: rest => if n = 3 ∧ na ≤ st.length ∧ kd S b = mO k' then cl ρ k' (.ref b :: (st.take na).reverse) rest else none
  | _ => none
def xV11 : Option mRes := match st with
  | .ref b :: rest => if n = 3 ∧ 4 ≤ ρ.1 ∧ (kd S b = 200 ∨ kd S b = 201) ∧ cw rest ≤ 8 then nx ρ S I L R (pc + 3) ls (.int (nI (strC (kd S b - 200)).length) :: rest) else none
  | _ => none
def xV12 : Option mRes := match st with
  | .int i :: .ref b :: rest => if n = 3 ∧ 4 ≤ ρ.1 ∧ (kd S b = 200 ∨ kd S b = 201) ∧ ¬ (i < 0 ∨ (strC (kd S b - 200)).length ≤ i.toNatClampNeg) ∧ cw rest ≤ 8 then nx ρ S I L R (pc + 3) ls (.int (nI ((strC (kd S b - 200)).getD i.toNatClampNeg 0)) :: rest) else none
  | _ => none
def xInvV (j : Nat) : Option mRes := match lM (mO k) j with
  | some (kd0, k', na) => if kd0 = 0 then xV0 n ρ st S k' na else if kd0 = 11 then xV11 n ρ pc ls st S I L R else if kd0 = 12 then xV12 n ρ pc ls st S I L R else none
  | none => none
def xN0 (k' na : Nat) : Option mRes := match st.drop na with
  | .ref b :: rest => if n = 3 ∧ na ≤ st.length then cl ρ k' (.ref b :: (st.take na).reverse) rest else none
  | _ => none
def xN3 : Option mRes := match st with
  | .ref _ :: rest => if n = 3 ∧ 1 ≤ ρ.1 ∧ cw rest ≤ 8 then nx ρ S I L R (pc + 3) ls rest else none
  | _ => none
def xInvI (j : Nat) : Option mRes := match lM (mO k) j with
  | some (kd0, k', na) => if kd0 = 2 ∨ kd0 = 4 then xN0 n ρ st k' na else if kd0 = 3 then xN3 n ρ pc ls st S I L R else none
  | none => none
def xCopy : Option mRes := match st with
  | .int m :: .int dp :: .ref b :: .int sp :: .ref a :: rest => if n = 3 ∧ 1 ≤ ρ.1 ∧ cw rest ≤ 8 ∧ ¬ sp < 0 ∧ ¬ dp < 0 ∧ ¬ m < 0 ∧ sp.toNatClampNeg + m.toNatClampNeg ≤ ln S a ∧ dp.toNatClampNeg + m.toNatClampNeg ≤ ln S b then
      (if kd S a = 100 ∧ kd S b = 100 then nx ρ S (va_up I b (va_cpy (I a) (I b) sp.toNatClampNeg dp.toNatClampNeg m.toNatClampNeg)) L R (pc + 3) ls rest
      else if kd S a = 101 ∧ kd S b = 101 then nx ρ S I (va_up L b (va_cpy (L a) (L b) sp.toNatClampNeg dp.toNatClampNeg m.toNatClampNeg)) R (pc + 3) ls rest
      else none) else none
  | _ => none
def xM7 : Option mRes := match st with
  | .int y :: .int x :: rest => if n = 3 ∧ 1 ≤ ρ.1 ∧ cw rest ≤ 8 then nx ρ S I L R (pc + 3) ls (.int (if x < y then y else x) :: rest) else none
  | _ => none
def xM8 : Option mRes := match st with
  | .int y :: .int x :: rest => if n = 3 ∧ 1 ≤ ρ.1 ∧ cw rest ≤ 8 then nx ρ S I L R (pc + 3) ls (.int (if y < x then y else x) :: rest) else none
  | _ => none
def xM9 : Option mRes := match st with
  | .int x :: rest => if n = 3 ∧ 1 ≤ ρ.1 ∧ cw rest ≤ 8 then nx ρ S I L R (pc + 3) ls (.int (if 0 ≤ x then x else 0 - x) :: rest) else none
  | _ => none
def xM10 : Option mRes := match st with
  | .long y :: .long x :: rest => if n = 3 ∧ 1 ≤ ρ.1 ∧ cw rest ≤ 8 then nx ρ S I L R (pc + 3) ls (.long (if y < x then x else y) :: rest) else none
  | _ => none
def xS0 (k' na : Nat) : Option mRes := if n = 3 ∧ na ≤ st.length then cl ρ k' (st.take na).reverse (st.drop na) else none
def xInvS (j : Nat) : Option mRes := match lM (mO k) j with
  | some (kd0, k', na) => if kd0 = 1 ∨ kd0 = 5 then xS0 n ρ st k' na else if kd0 = 6 then xCopy n ρ pc ls st S I L R else if kd0 = 7 then xM7 n ρ pc ls st S I L R else if kd0 = 8 then xM8 n ρ pc ls st S I L R else if kd0 = 9 then xM9 n ρ pc ls st S I L R else if kd0 = 10 then xM10 n ρ pc ls st S I L R else none
  | none => none
def xRetI : Option mRes := match st with
  | [.int x] => if n = 1 ∧ (mT k = some .int ∨ (mT k = some .boolean ∧ (x = 0 ∨ x = 1))) then some (.inr (.inl (some (.int x)))) else none
  | _ => none
def xRetL : Option mRes := match st with
  | [.long x] => if n = 1 ∧ mT k = some .long then some (.inr (.inl (some (.long x)))) else none
  | _ => none
def xRetA : Option mRes := match st with
  | [.ref x] => if n = 1 ∧ mT k = some (.object "StiltMarsh$Stance") then some (.inr (.inl (some (.ref x)))) else none
  | _ => none
def xRetV : Option mRes := match st with
  | [] => if n = 1 ∧ mT k = none then some (.inr (.inl none)) else none
  | _ => none
def xLdc (len j : Nat) : Option mRes := match iM (mO k) j with
  | some v => xPush n ρ pc ls st S I L R len (.int v)
  | none => (match sM (mO k) j with
    | some i => if n = len then (match R 0 i with
      | some q => nx ρ S I L R (pc + len) ls (.ref q :: st)
      | none => none) else none
    | none => none)
def xLdc2 (j : Nat) : Option mRes := match jM (mO k) j with
  | some v => xPush n ρ pc ls st S I L R 3 (.long v)
  | none => none
def xInc (j : Nat) (z : Int) : Option mRes := match lg ls j with
  | some (.int x) => if n = 3 ∧ j < mN k then nx ρ S I L R (pc + 3) (ls1 ls j (.int (x + Int32.ofInt z))) st else none
  | _ => none
/-- one instruction -/
def exI (i : Instr) : Option mRes := match i with
  | .iconst z => xPush n ρ pc ls st S I L R 1 (.int (Int32.ofInt z))
  | .bipush z => xPush n ρ pc ls st S I L R 2 (.int (Int8.ofInt z).toInt32)
  | .sipush z => xPush n ρ pc ls st S I L R 3 (.int (Int16.ofInt z).toInt32)
  | .lconst z => xPush n ρ pc ls st S I L R 1 (.long (Int64.ofNat (z : Nat)))
  | .ldc j => xLdc k n ρ pc ls st S I L R 2 j
  | .ldc_w j => xLdc k n ρ pc ls st S I L R 3 j
  | .ldc2_w j => xLdc2 k n ρ pc ls st S I L R j
  | .iload_n j => xLoadI n ρ pc ls st S I L R 1 j
  | .iload j => xLoadI n ρ pc ls st S I L R 2 j
  | .lload_n j => xLoadL n ρ pc ls st S I L R 1 j
  | .lload j => xLoadL n ρ pc ls st S I L R 2 j
  | .aload_n j => xLoadA n ρ pc ls st S I L R 1 j
  | .aload j => xLoadA n ρ pc ls st S I L R 2 j
  | .istore_n j => xStoreI k n ρ pc ls st S I L R 1 j
  | .istore j => xStoreI k n ρ pc ls st S I L R 2 j
  | .lstore_n j => xStoreL k n ρ pc ls st S I L R 1 j
  | .lstore j => xStoreL k n ρ pc ls st S I L R 2 j
  | .astore_n j => xStoreA k n ρ pc ls st S I L R 1 j
  | .astore j => xStoreA k n ρ pc ls st S I L R 2 j
  | .iinc j z => xInc k n ρ pc ls st S I L R j z
  | .iadd => xII n ρ pc ls st S I L R (fun x y => x + y)
  | .isub => xII n ρ pc ls st S I L R (fun x y => x - y)
  | .imul => xII n ρ pc ls st S I L R (fun x y => x * y)
  | .iand => xII n ρ pc ls st S I L R (fun x y => x &&& y)
  | .ior => xII n ρ pc ls st S I L R (fun x y => x ||| y)
  | .ixor => xII n ρ pc ls st S I L R (fun x y => x ^^^ y)
  | .ishl => xII n ρ pc ls st S I L R (fun x y => x <<< (y &&& 31))
  | .ishr => xII n ρ pc ls st S I L R (fun x y => x >>> (y &&& 31))
  | .iushr => xII n ρ pc ls st S I L R (fun x y => (x.toUInt32 >>> (y.toUInt32 &&& Int32.toUInt32 31)).toInt32)
  | .idiv => xIId n ρ pc ls st S I L R (fun x y => x / y)
  | .irem => xIId n ρ pc ls st S I L R (fun x y => x - x / y * y)
  | .ineg => xI n ρ pc ls st S I L R (fun x => -x)
  | .i2b => xI n ρ pc ls st S I L R (fun x => x.toInt8.toInt32)
  | .i2s => xI n ρ pc ls st S I L R (fun x => x.toInt16.toInt32)
  | .ladd => xLL n ρ pc ls st S I L R (fun x y => x + y)
  | .lmul => xLL n ρ pc ls st S I L R (fun x y => x * y)
  | .land => xLL n ρ pc ls st S I L R (fun x y => x &&& y)
  | .lor => xLL n ρ pc ls st S I L R (fun x y => x ||| y)
  | .ldiv => xLLd n ρ pc ls st S I L R (fun x y => x / y)
  | .lrem => xLLd n ρ pc ls st S I L R (fun x y => x - x / y * y)
  | .lshl => xLI n ρ pc ls st S I L R (fun x y => x <<< (y.toInt64 &&& 63))
  | .i2l => xI2L n ρ pc ls st S I L R
  | .l2i => xL2I n ρ pc ls st S I L R
  | .lcmp => xLcmp n ρ pc ls st S I L R
  | .dup => xDup n ρ pc ls st S I L R
  | .dup2 => xDup2 n ρ pc ls st S I L R
  | .pop => xPop n ρ pc ls st S I L R
  | .ifCond c off => xIf n ρ pc ls st S I L R c off
  | .if_icmp c off => xIcmp n ρ pc ls st S I L R c off
  | .goto off => if n = 3 then jx ρ ls S I L R pc off st else none
  | .tableswitch d lo hi offs => xTsw ρ pc ls st S I L R d lo hi offs
  | .lookupswitch d ps => xLsw ρ pc ls st S I L R d ps
  | .getfield j => xGet k n ρ pc ls st S I L R j
  | .putfield j => xPut k n ρ pc ls st S I L R j
  | .iaload => xIald n ρ pc ls st S I L R
  | .baload => xBald n ρ pc ls st S I L R
  | .laload => xLald n ρ pc ls st S I L R
  | .aaload => xAald n ρ pc ls st S I L R
  | .iastore => xIast n ρ pc ls st S I L R
  | .bastore => xBast n ρ pc ls st S I L R
  | .lastore => xLast n ρ pc ls st S I L R
  | .aastore => xAast n ρ pc ls st S I L R
  | .arraylength => xAlen n ρ pc ls st S I L R
  | .new j => xNew k n ρ pc ls st S I L R j
  | .newarray t => xNewa n ρ pc ls st S I L R t
  | .anewarray j => xANew k n ρ pc ls st S I L R j
  | .invokevirtual j => xInvV k n ρ pc ls st S I L R j
  | .invokespecial j => xInvI k n ρ pc ls st S I L R j
  | .invokestatic j => xInvS k n ρ pc ls st S I L R j
  | .ireturn => xRetI k n st
  | .lreturn => xRetL k n st
  | .areturn => xRetA k n st
  | .return_ => xRetV k n st
  | _ => none
end MX
def mx (k : Nat) (s : mSt) : Option mRes := match decode (mC k) s.2.1 with
  | .ok (i, n) => exI k n s.1 s.2.1 s.2.2.1 s.2.2.2.1 s.2.2.2.2.1 s.2.2.2.2.2.1 s.2.2.2.2.2.2.1 s.2.2.2.2.2.2.2 i
  | .error _ => none
/-- one step of a predicate -/
def mF (P : Nat → mSt → mQ → Prop) (k : Nat) (s : mSt) (Q : mQ) : Prop := match mx k s with
  | none => False
  | some (.inl s') => P k s' Q
  | some (.inr (.inl v)) => Q v s.2.2.2.2.1 s.2.2.2.2.2.1 s.2.2.2.2.2.2.1 s.2.2.2.2.2.2.2
  | some (.inr (.inr (k', as, rest))) => ∃ Q' : mQ, P k' ((s.1.1 - 1, (mcs k').1, (mcs k').2), 0, lse (mN k') as, [], s.2.2.2.2) Q' ∧ ∀ (v : Option Value) (S : mS) (I : mI) (L : mL) (R : mR), Q' v S I L R → P k ((s.1.1, s.1.2.1 - (mcs k').1, s.1.2.2 - (mcs k').2), s.2.1 + 3, s.2.2.1, v.toList ++ rest, S, I, L, R) Q
theorem mF_mono {P P' : Nat → mSt → mQ → Prop} (h : ∀ k s Q, P k s Q → P' k s Q) (k : Nat) (s : mSt) (Q : mQ) (hP : mF P k s Q) : mF P' k s Q := by
  unfold mF at hP ⊢
  cases hm : mx k s with
  | none => rw [hm] at hP; exact hP
  | some r =>
    rw [hm] at hP
    match r, hP with
    | .inl s', hP => exact h _ _ _ hP
    | .inr (.inl v), hP => exact hP
    | .inr (.inr (k', as, rest)), ⟨Q', h1, h2⟩ => exact ⟨Q', h _ _ _ h1, fun v S I L R hq => h _ _ _ (h2 v S I L R hq)⟩
def wpT (k : Nat) (s : mSt) (Q : mQ) : Prop := ∀ P : Nat → mSt → mQ → Prop, (∀ k s Q, mF P k s Q → P k s Q) → P k s Q
theorem wpT_fold (k : Nat) (s : mSt) (Q : mQ) (h : mF wpT k s Q) : wpT k s Q := fun P hP => hP k s Q (mF_mono (fun _ _ _ hw => hw P hP) k s Q h)
theorem wpT_unfold (k : Nat) (s : mSt) (Q : mQ) (h : wpT k s Q) : mF wpT k s Q := h (mF wpT) (fun k s Q h1 => mF_mono wpT_fold k s Q h1)
theorem wpT_eq (k : Nat) (s : mSt) (Q : mQ) : wpT k s Q = mF wpT k s Q := propext ⟨wpT_unfold k s Q, wpT_fold k s Q⟩
theorem wpT_mono {k : Nat} {s : mSt} {Q Q2 : mQ} (h : wpT k s Q) (hQ : ∀ v S I L R, Q v S I L R → Q2 v S I L R) : wpT k s Q2 := by
  refine h (fun k s Q => ∀ Q2 : mQ, (∀ v S I L R, Q v S I L R → Q2 v S I L R) → wpT k s Q2) ?_ Q2 hQ
  intro k s Q hF Q2 hQ
  refine wpT_fold k s Q2 ?_
  unfold mF at hF ⊢
  cases hm : mx k s with
  | none => rw [hm] at hF; exact hF
  | some r =>
    rw [hm] at hF
    match r, hF with
    | .inl s', hF => exact hF _ hQ
    | .inr (.inl v), hF => exact hQ _ _ _ _ _ hF
    | .inr (.inr (k', as, rest)), ⟨Q', h1, h2⟩ => exact ⟨Q', h1 Q' (fun _ _ _ _ _ h => h), fun v S I L R hq => h2 v S I L R hq Q2 hQ⟩
def WP (ρ : mB) (k pc : Nat) (ls : mV) (st : List Value) (S : mS) (I : mI) (L : mL) (R : mR) (Q : mQ) : Prop := wpT k (ρ, pc, ls, st, S, I, L, R) Q
theorem WP_mono {ρ : mB} {k pc : Nat} {ls : mV} {st : List Value} {S : mS} {I : mI} {L : mL} {R : mR} {Q Q2 : mQ} (h : WP ρ k pc ls st S I L R Q) (hQ : ∀ v S I L R, Q v S I L R → Q2 v S I L R) : WP ρ k pc ls st S I L R Q2 := wpT_mono h hQ
/-- a step that goes on -/
theorem WP_nx {ρ ρ' : mB} {k pc pc' : Nat} {ls ls' : mV} {st st' : List Value} {S S' : mS} {I I' : mI} {L L' : mL} {R R' : mR} {Q : mQ} {i : Instr} {n : Nat} (hd : decode (mC k) pc = .ok (i, n)) (h : exI k n ρ pc ls st S I L R i = some (.inl (ρ', pc', ls', st', S', I', L', R'))) :
    WP ρ k pc ls st S I L R Q = WP ρ' k pc' ls' st' S' I' L' R' Q := by
  have hm : mx k (ρ, pc, ls, st, S, I, L, R) = some (.inl (ρ', pc', ls', st', S', I', L', R')) := by
    unfold mx
    dsimp only
    rw [hd]
    exact h
  unfold WP
  rw [wpT_eq]
  unfold mF
  rw [hm]
/-- a return -/
theorem WP_rt {ρ : mB} {k pc : Nat} {ls : mV} {st : List Value} {S : mS} {I : mI} {L : mL} {R : mR} {Q : mQ} {i : Instr} {n : Nat} {v : Option Value} (hd : decode (mC k) pc = .ok (i, n)) (h : exI k n ρ pc ls st S I L R i = some (.inr (.inl v))) :
    WP ρ k pc ls st S I L R Q = Q v S I L R := by
  have hm : mx k (ρ, pc, ls, st, S, I, L, R) = some (.inr (.inl v)) := by
    unfold mx
    dsimp only
    rw [hd]
    exact h
  unfold WP
  rw [wpT_eq]
  unfold mF
  rw [hm]
/-- a call -/
theorem WP_cl {ρ : mB} {k pc k' : Nat} {ls : mV} {st as rest : List Value} {S : mS} {I : mI} {L : mL} {R : mR} {Q : mQ} {i : Instr} {n : Nat} (hd : decode (mC k) pc = .ok (i, n)) (h : exI k n ρ pc ls st S I L R i = some (.inr (.inr (k', as, rest)))) :
    WP ρ k pc ls st S I L R Q = WP (ρ.1 - 1, (mcs k').1, (mcs k').2) k' 0 (lse (mN k') as) [] S I L R (fun v S I L R => WP (ρ.1, ρ.2.1 - (mcs k').1, ρ.2.2 - (mcs k').2) k (pc + 3) ls (v.toList ++ rest) S I L R Q) := by
  have hm : mx k (ρ, pc, ls, st, S, I, L, R) = some (.inr (.inr (k', as, rest))) := by
    unfold mx
    dsimp only
    rw [hd]
    exact h
  refine propext ⟨fun hw => ?_, fun hw => ?_⟩
  · unfold WP at hw
    rw [wpT_eq] at hw
    unfold mF at hw
    rw [hm] at hw
    obtain ⟨Q', h1, h2⟩ := hw
    exact wpT_mono h1 h2
  · unfold WP
    rw [wpT_eq]
    unfold mF
    rw [hm]
    exact ⟨_, hw, fun v S I L R h => h⟩
