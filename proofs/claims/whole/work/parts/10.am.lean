section
/-! the abstract machine: what an instruction does, as a transformer of predicates -/
def aSh (k : Nat) : Nat × Nat × Int := nth2 (9, 0, 0) aSHL k
def aRt (k i : Nat) : Nat := nth 0 (nth2 [] aRTL k) i
def aFk (ci i : Nat) : Nat := nth 9 (nth [] aFKL ci) i
def aNf (ci : Nat) : Nat := (nth [] aFKL ci).length
/-- cells from 1000 on: texts; 1100: their bytes; 1200: the script (its length at 9999, 2); 9999: how many cells and slots have been made -/
def aNn (ph : Bool) (σ : aW) : Nat := bif ph then aNC else (σ 9999 0).toNat
def aSl (ph : Bool) (σ : aW) : Nat := bif ph then aSL else (σ 9999 1).toNat
def aIsL : aV → Bool
  | .inr (.inl _) => true
  | _ => false
def aCat (v : aV) : Nat := bif aIsL v then 2 else 1
def aKill (ls : List aV) : Nat → List aV
  | 0 => ls
  | i + 1 => bif aIsL (nth vt ls i) then ls.set i vt else ls
def stI (ls : List aV) (i : Nat) (v : aV) : List aV := (aKill ls i).set i v
def stJ (ls : List aV) (i : Nat) (v : aV) : List aV := ((aKill ls i).set (i + 1) vt).set i v
def b32 (f : Int32 → Int32 → Int32) (x y : Int) : Int := (f (Int32.ofInt x) (Int32.ofInt y)).toInt
def b64 (f : Int64 → Int64 → Int64) (x y : Int) : Int := (f (Int64.ofInt x) (Int64.ofInt y)).toInt
def u32 (x y : Int) : Int := ((Int32.ofInt x).toUInt32 >>> ((Int32.ofInt y).toUInt32 &&& Int32.toUInt32 31)).toInt32.toInt
def sh64l (x y : Int) : Int := (Int64.ofInt x <<< ((Int32.ofInt y).toInt64 &&& 63)).toInt
def sh64r (x y : Int) : Int := (Int64.ofInt x >>> ((Int32.ofInt y).toInt64 &&& 63)).toInt
def wc (x : Int) : Int := ((Int32.ofInt x).toUInt32 % 65536).toInt32.toInt
def c3 (x y : Int) : Int := if y < x then 1 else if x = y then 0 else -1
def aCmp (c : Jvm.ClassFile.Cond) (x y : Int) : Prop := match c with
  | .eq => x = y
  | .ne => ¬ x = y
  | .lt => x < y
  | .ge => y ≤ x
  | .gt => y < x
  | .le => x ≤ y
def tg (pc : Nat) (off : Int) : Nat := ((pc : Int) + off).toNat
/-- what a field of this kind, a row of this kind, a method of this kind may hold or answer -/
def aRg (kd : Nat) (x : Int) : Prop := match kd with
  | 1 => True
  | 2 => True
  | 3 => x = 0 ∨ x = 1
  | 4 => -128 ≤ x ∧ x < 128
  | 5 => 0 ≤ x ∧ x < 65536
  | _ => False
def oB32 (K : aK) (n : Nat) (f : Int → Int → Int) (ls st : List aV) (σ : aW) : Prop := ∃ (x y : Int) (st' : List aV), st = vi y :: vi x :: st' ∧ K n ls (vi (f x y) :: st') σ
def oB64 (K : aK) (n : Nat) (f : Int → Int → Int) (ls st : List aV) (σ : aW) : Prop := ∃ (x y : Int) (st' : List aV), st = vl y :: vl x :: st' ∧ K n ls (vl (f x y) :: st') σ
def oS64 (K : aK) (n : Nat) (f : Int → Int → Int) (ls st : List aV) (σ : aW) : Prop := ∃ (x y : Int) (st' : List aV), st = vi y :: vl x :: st' ∧ K n ls (vl (f x y) :: st') σ
def oD32 (K : aK) (n : Nat) (f : Int → Int → Int) (ls st : List aV) (σ : aW) : Prop := ∃ (x y : Int) (st' : List aV), st = vi y :: vi x :: st' ∧ ¬ y = 0 ∧ K n ls (vi (f x y) :: st') σ
def oD64 (K : aK) (n : Nat) (f : Int → Int → Int) (ls st : List aV) (σ : aW) : Prop := ∃ (x y : Int) (st' : List aV), st = vl y :: vl x :: st' ∧ ¬ y = 0 ∧ K n ls (vl (f x y) :: st') σ
def oU32 (K : aK) (n : Nat) (f : Int → Int) (ls st : List aV) (σ : aW) : Prop := ∃ (x : Int) (st' : List aV), st = vi x :: st' ∧ K n ls (vi (f x) :: st') σ
def oLdI (K : aK) (n i : Nat) (ls st : List aV) (σ : aW) : Prop := ∃ x : Int, nth vt ls i = vi x ∧ K n ls (vi x :: st) σ
def oLdL (K : aK) (n i : Nat) (ls st : List aV) (σ : aW) : Prop := ∃ x : Int, nth vt ls i = vl x ∧ K n ls (vl x :: st) σ
def oLdA (K : aK) (n i : Nat) (ls st : List aV) (σ : aW) : Prop := ∃ x : Nat, nth vt ls i = vr x ∧ Nat.beq x 1300 = false ∧ K n ls (vr x :: st) σ
def oStI (K : aK) (n i : Nat) (ls st : List aV) (σ : aW) : Prop := ∃ (x : Int) (st' : List aV), st = vi x :: st' ∧ i < ls.length ∧ K n (stI ls i (vi x)) st' σ
def oStL (K : aK) (n i : Nat) (ls st : List aV) (σ : aW) : Prop := ∃ (x : Int) (st' : List aV), st = vl x :: st' ∧ i + 1 < ls.length ∧ K n (stJ ls i (vl x)) st' σ
def oStA (K : aK) (n i : Nat) (ls st : List aV) (σ : aW) : Prop := ∃ (x : Nat) (st' : List aV), st = vr x :: st' ∧ Nat.beq x 1300 = false ∧ i < ls.length ∧ K n (stI ls i (vr x)) st' σ
/-- a row's element: kd the row's kind -/
def oLdX (K : aK) (n : Nat) (mk : Int → aV) (kd : Nat) (ls st : List aV) (σ : aW) : Prop := ∃ (k : Nat) (i L : Int) (st' : List aV), st = vi i :: vr k :: st' ∧ Nat.blt k 1000 = true ∧ aSh k = (kd, 0, L) ∧ (0 ≤ i ∧ i < L) ∧ K n ls (mk (σ k i) :: st') σ
def oLdS (K : aK) (n : Nat) (ls st : List aV) (σ : aW) : Prop := ∃ (i : Int) (st' : List aV), st = vi i :: vr 1200 :: st' ∧ (0 ≤ i ∧ i < σ 9999 2) ∧ K n ls (vi (σ 1200 i) :: st') σ
def oLdT (K : aK) (n : Nat) (ls st : List aV) (σ : aW) : Prop := ∃ (k : Nat) (i : Int) (st' : List aV), st = vi i :: vr (1100 + k) :: st' ∧ Nat.blt k 16 = true ∧ (0 ≤ i ∧ i < (nth [] aSTR k).length) ∧ K n ls (vi (nth 0 (nth [] aSTR k) i.toNat) :: st') σ
def oStX (K : aK) (n : Nat) (mk : Int → aV) (kd : Nat) (ls st : List aV) (σ : aW) : Prop := ∃ (k : Nat) (i x L : Int) (st' : List aV), st = mk x :: vi i :: vr k :: st' ∧ Nat.blt k 1000 = true ∧ aSh k = (kd, 0, L) ∧ (0 ≤ i ∧ i < L) ∧ aRg kd x ∧ K n ls st' (sw σ k (fu (σ k) i x))
def oLen (K : aK) (n : Nat) (ls st : List aV) (σ : aW) : Prop :=
  (∃ (k kd : Nat) (L : Int) (st' : List aV), st = vr k :: st' ∧ Nat.blt k 1000 = true ∧ aSh k = (kd + 1, 0, L) ∧ K n ls (vi L :: st') σ) ∨
  (∃ (k : Nat) (st' : List aV), st = vr (1100 + k) :: st' ∧ Nat.blt k 16 = true ∧ K n ls (vi (nth [] aSTR k).length :: st') σ) ∨
  (∃ st' : List aV, st = vr 1200 :: st' ∧ K n ls (vi (σ 9999 2) :: st') σ)
/-- what a field of a kind gives -/
def oFld (ph : Bool) (K : aV → Prop) (kd k i : Nat) (σ : aW) : Prop := match kd with
  | 1 => K (vi (σ k i))
  | 2 => K (vl (σ k i))
  | 3 => K (vi (σ k i))
  | 0 => match ph with
    | true => K (vr (aRt k i))
    | false => ∃ t : Nat, σ k i = (t : Int) + 1 ∧ K (vr t)
  | _ => False
def oGet (ph : Bool) (K : aK) (n : Nat) (an : List Nat) (ls st : List aV) (σ : aW) : Prop :=
  (∃ (ci i k ps : Nat) (st' : List aV), an = [0, ci, i, ps] ∧ st = vr k :: st' ∧ Nat.blt k 1000 = true ∧ aSh k = (0, ci, 0) ∧ oFld ph (fun v => K n ls (v :: st') σ) (aFk ci i) k i σ) ∨
  (∃ (k ps : Nat) (st' : List aV), an = [1, ps] ∧ st = vr (1000 + k) :: st' ∧ Nat.blt k 16 = true ∧ K n ls (vr (1100 + k) :: st') σ) ∨
  (∃ (k ps : Nat) (st' : List aV), an = [2, ps] ∧ st = vr (1000 + k) :: st' ∧ Nat.blt k 16 = true ∧ K n ls (vi 0 :: st') σ)
def oPut (ph : Bool) (K : aK) (n : Nat) (an : List Nat) (ls st : List aV) (σ : aW) : Prop :=
  ∃ (ci i k fn ps : Nat) (v : aV) (st' : List aV), an = [ci, i, fn, ps] ∧ st = v :: vr k :: st' ∧ Nat.blt k 1000 = true ∧ aSh k = (0, ci, 0) ∧
    ((∃ x : Int, v = vi x ∧ (aFk ci i = 1 ∨ (aFk ci i = 3 ∧ (x = 0 ∨ x = 1))) ∧ K n ls st' (sw σ k (fu (σ k) i x))) ∨
     (∃ x : Int, v = vl x ∧ aFk ci i = 2 ∧ K n ls st' (sw σ k (fu (σ k) i x))) ∨
     (∃ t : Nat, ph = false ∧ v = vr t ∧ Nat.blt t 1000 = true ∧ aFk ci i = 0 ∧ K n ls st' (sw σ k (fu (σ k) i (t + 1)))))
def oIf (K : aK) (pc : Nat) (c : Jvm.ClassFile.Cond) (off : Int) (ls st : List aV) (σ : aW) : Prop := ∃ (x : Int) (st' : List aV), st = vi x :: st' ∧ (aCmp c x 0 → K (tg pc off) ls st' σ) ∧ (¬ aCmp c x 0 → K (pc + 3) ls st' σ)
def oIc (K : aK) (pc : Nat) (c : Jvm.ClassFile.Cond) (off : Int) (ls st : List aV) (σ : aW) : Prop := ∃ (x y : Int) (st' : List aV), st = vi y :: vi x :: st' ∧ (aCmp c x y → K (tg pc off) ls st' σ) ∧ (¬ aCmp c x y → K (pc + 3) ls st' σ)
def oLsw (K : aK) (pc : Nat) (x : Int) (ls st : List aV) (σ : aW) : List (Int × Int) → Int → Prop
  | [], d => K (tg pc d) ls st σ
  | (a, o) :: r, d => (x = a → K (tg pc o) ls st σ) ∧ (¬ x = a → oLsw K pc x ls st σ r d)
def oTsw (K : aK) (pc : Nat) (x : Int) (ls st : List aV) (σ : aW) : Int → List Int → Int → Prop
  | _, [], d => K (tg pc d) ls st σ
  | a, o :: r, d => (x = a → K (tg pc o) ls st σ) ∧ (¬ x = a → oTsw K pc x ls st σ (a + 1) r d)
/-- a call: which method, how many arguments (the receiver too), of what kind of object the receiver is (100: a text, 99: none) -/
def oRc (ci : Nat) (as : List aV) : Prop := match ci with
  | 99 => True
  | 100 => ∃ (k : Nat) (as' : List aV), as = vr (1000 + k) :: as' ∧ Nat.blt k 16 = true
  | _ => ∃ (k : Nat) (as' : List aV), as = vr k :: as' ∧ Nat.blt k 1000 = true ∧ aSh k = (0, ci, 0)
/-- room for what a callee makes -/
def aFit (ph : Bool) (lm : Int × Int) (σ : aW) (q : Nat × Nat) : Prop := match ph with
  | true => True
  | false => σ 9999 0 + q.1 ≤ lm.1 ∧ σ 9999 1 + q.2 ≤ lm.2
def oCall (ph : Bool) (lm : Int × Int) (E : Nat → aT) (K : aK) (n : Nat) (an : List Nat) (ls st : List aV) (σ : aW) : Prop :=
  ∃ (j na ci : Nat) (ps : List Nat) (as st' : List aV), an = 0 :: j :: na :: ci :: ps ∧ Nat.blt j 276 = true ∧ st = as.reverse ++ st' ∧ as.length = na ∧ Nat.ble ((as.map aCat).sum) (aMl j) = true ∧ Nat.ble ((st'.map aCat).sum) 8 = true ∧ oRc ci as ∧ aFit ph lm σ (aMk j) ∧ E j as σ (fun r σ' => K n ls (r.toList ++ st') σ')
/-- System.arraycopy over rows of one kind -/
def aCp (f g : Int → Int) (sp dp n : Int) : Int → Int := fun k => if dp ≤ k ∧ k < dp + n then f (sp + (k - dp)) else g k
def oCopy (lv : Nat) (K : aK) (n : Nat) (an : List Nat) (ls st : List aV) (σ : aW) : Prop :=
  ∃ (ps : List Nat) (k k2 kd : Nat) (sp dp m L L2 : Int) (st' : List aV), an = 1 :: ps ∧ st = vi m :: vi dp :: vr k2 :: vi sp :: vr k :: st' ∧ Nat.blt k 1000 = true ∧ Nat.blt k2 1000 = true ∧ aSh k = (kd + 1, 0, L) ∧ aSh k2 = (kd + 1, 0, L2) ∧ (Nat.beq kd 0 || Nat.beq kd 1) = true ∧
    (0 ≤ sp ∧ 0 ≤ dp ∧ 0 ≤ m ∧ sp + m ≤ L ∧ dp + m ≤ L2) ∧ Nat.ble 1 lv = true ∧ Nat.ble ((st'.map aCat).sum) 8 = true ∧ K n ls st' (sw σ k2 (aCp (σ k) (σ k2) sp dp m))
/-- Math.max, min, abs over int, max, min over long -/
def oMth (lv : Nat) (K : aK) (n : Nat) (an : List Nat) (ls st : List aV) (σ : aW) : Prop :=
  Nat.ble 1 lv = true ∧ ∃ ps : List Nat, 
  (∃ (x y : Int) (st' : List aV), an = 3 :: 0 :: ps ∧ st = vi y :: vi x :: st' ∧ Nat.ble ((st'.map aCat).sum) 8 = true ∧ K n ls (vi (max x y) :: st') σ) ∨
  (∃ (x y : Int) (st' : List aV), an = 3 :: 1 :: ps ∧ st = vi y :: vi x :: st' ∧ Nat.ble ((st'.map aCat).sum) 8 = true ∧ K n ls (vi (min x y) :: st') σ) ∨
  (∃ (x : Int) (st' : List aV), an = 3 :: 2 :: ps ∧ st = vi x :: st' ∧ Nat.ble ((st'.map aCat).sum) 8 = true ∧ K n ls (vi (w32 (if 0 ≤ x then x else -x)) :: st') σ) ∨
  (∃ (x y : Int) (st' : List aV), an = 3 :: 3 :: ps ∧ st = vl y :: vl x :: st' ∧ Nat.ble ((st'.map aCat).sum) 8 = true ∧ K n ls (vl (max x y) :: st') σ) ∨
  (∃ (x y : Int) (st' : List aV), an = 3 :: 4 :: ps ∧ st = vl y :: vl x :: st' ∧ Nat.ble ((st'.map aCat).sum) 8 = true ∧ K n ls (vl (min x y) :: st') σ)
def oObj (lv : Nat) (K : aK) (n : Nat) (an : List Nat) (ls st : List aV) (σ : aW) : Prop :=
  ∃ (ps : List Nat) (k : Nat) (st' : List aV), an = 2 :: ps ∧ st = vr k :: st' ∧ Nat.blt k 1000 = true ∧ Nat.ble 1 lv = true ∧ Nat.ble ((st'.map aCat).sum) 8 = true ∧ K n ls st' σ
/-- a new cell: its kind stands in the list of cells -/
def oNew (ph : Bool) (lm : Int × Int) (K : aK) (n : Nat) (an : List Nat) (ls st : List aV) (σ : aW) : Prop :=
  ∃ (ci : Nat) (ps : List Nat), an = ci :: ps ∧ ph = false ∧ Nat.blt (σ 9999 0).toNat aNC = true ∧ aSh (σ 9999 0).toNat = (0, ci, 0) ∧ (σ 9999 0 + 1 ≤ lm.1 ∧ σ 9999 1 + aNf ci ≤ lm.2) ∧
    K n ls (vr (σ 9999 0).toNat :: st) (sw (sw σ (σ 9999 0).toNat (fun _ => 0)) 9999 (fu (fu (σ 9999) 0 (σ 9999 0 + 1)) 1 (σ 9999 1 + aNf ci)))
def oNwa (ph : Bool) (lm : Int × Int) (K : aK) (n kd : Nat) (ls st : List aV) (σ : aW) : Prop :=
  ∃ (L : Int) (st' : List aV), st = vi L :: st' ∧ ph = false ∧ Nat.blt (σ 9999 0).toNat aNC = true ∧ aSh (σ 9999 0).toNat = (kd, 0, L) ∧ (0 ≤ L ∧ L < 100000) ∧ (σ 9999 0 + 1 ≤ lm.1 ∧ σ 9999 1 + L ≤ lm.2) ∧
    K n ls (vr (σ 9999 0).toNat :: st') (sw (sw σ (σ 9999 0).toNat (fun _ => 0)) 9999 (fu (fu (σ 9999) 0 (σ 9999 0 + 1)) 1 (σ 9999 1 + L)))
def aAty (t : ArrayType) : Nat := match t with
  | .int => 1
  | .long => 2
  | .boolean => 3
  | .byte => 4
  | .char => 5
  | _ => 9
/-- one instruction -/
def aStep (E : Nat → aT) (lv : Nat) (lm : Int × Int) (ph : Bool) (rt : Nat) (K : aK) (Q : aQ) (pc : Nat) (x : Instr) (an : List Nat) (c : Int) (ls st : List aV) (σ : aW) : Prop :=
  match x with
  | .iconst v => K (pc + 1) ls (vi v :: st) σ
  | .bipush v => K (pc + 2) ls (vi v :: st) σ
  | .sipush v => K (pc + 3) ls (vi v :: st) σ
  | .lconst v => K (pc + 1) ls (vl (v : Nat) :: st) σ
  | .ldc _ => (∃ ps, an = 0 :: ps ∧ K (pc + 2) ls (vi c :: st) σ) ∨ (∃ (t : Nat) (ps : List Nat), an = 1 :: t :: ps ∧ Nat.blt t 16 = true ∧ K (pc + 2) ls (vr (1000 + t) :: st) σ)
  | .ldc_w _ => (∃ ps, an = 0 :: ps ∧ K (pc + 3) ls (vi c :: st) σ) ∨ (∃ (t : Nat) (ps : List Nat), an = 1 :: t :: ps ∧ Nat.blt t 16 = true ∧ K (pc + 3) ls (vr (1000 + t) :: st) σ)
  | .ldc2_w _ => K (pc + 3) ls (vl c :: st) σ
  | .iload i => oLdI K (pc + 2) i ls st σ
  | .iload_n i => oLdI K (pc + 1) i ls st σ
  | .lload i => oLdL K (pc + 2) i ls st σ
  | .lload_n i => oLdL K (pc + 1) i ls st σ
  | .aload i => oLdA K (pc + 2) i ls st σ
  | .aload_n i => oLdA K (pc + 1) i ls st σ
  | .istore i => oStI K (pc + 2) i ls st σ
  | .istore_n i => oStI K (pc + 1) i ls st σ
  | .lstore i => oStL K (pc + 2) i ls st σ
  | .lstore_n i => oStL K (pc + 1) i ls st σ
  | .astore i => oStA K (pc + 2) i ls st σ
  | .astore_n i => oStA K (pc + 1) i ls st σ
  | .iinc i n => ∃ v : Int, nth vt ls i = vi v ∧ K (pc + 3) (stI ls i (vi (w32 (v + n)))) st σ
  | .iadd => oB32 K (pc + 1) (fun x y => w32 (x + y)) ls st σ
  | .isub => oB32 K (pc + 1) (fun x y => w32 (x - y)) ls st σ
  | .imul => oB32 K (pc + 1) (fun x y => w32 (x * y)) ls st σ
  | .iand => oB32 K (pc + 1) (b32 (fun x y => x &&& y)) ls st σ
  | .ior => oB32 K (pc + 1) (b32 (fun x y => x ||| y)) ls st σ
  | .ishl => oB32 K (pc + 1) (b32 (fun x y => x <<< (y &&& 31))) ls st σ
  | .ishr => oB32 K (pc + 1) (b32 (fun x y => x >>> (y &&& 31))) ls st σ
  | .iushr => oB32 K (pc + 1) u32 ls st σ
  | .idiv => oD32 K (pc + 1) (fun x y => w32 (x.tdiv y)) ls st σ
  | .irem => oD32 K (pc + 1) (fun x y => x.tmod y) ls st σ
  | .ineg => oU32 K (pc + 1) (fun x => w32 (-x)) ls st σ
  | .i2b => oU32 K (pc + 1) w8 ls st σ
  | .i2s => oU32 K (pc + 1) w16 ls st σ
  | .i2c => oU32 K (pc + 1) wc ls st σ
  | .i2l => ∃ (v : Int) (st' : List aV), st = vi v :: st' ∧ K (pc + 1) ls (vl v :: st') σ
  | .l2i => ∃ (v : Int) (st' : List aV), st = vl v :: st' ∧ K (pc + 1) ls (vi (w32 v) :: st') σ
  | .ladd => oB64 K (pc + 1) (fun x y => w64 (x + y)) ls st σ
  | .lsub => oB64 K (pc + 1) (fun x y => w64 (x - y)) ls st σ
  | .lmul => oB64 K (pc + 1) (fun x y => w64 (x * y)) ls st σ
  | .land => oB64 K (pc + 1) (b64 (fun x y => x &&& y)) ls st σ
  | .lor => oB64 K (pc + 1) (b64 (fun x y => x ||| y)) ls st σ
  | .lshl => oS64 K (pc + 1) sh64l ls st σ
  | .lshr => oS64 K (pc + 1) sh64r ls st σ
  | .ldiv => oD64 K (pc + 1) (fun x y => w64 (x.tdiv y)) ls st σ
  | .lneg => ∃ (v : Int) (st' : List aV), st = vl v :: st' ∧ K (pc + 1) ls (vl (w64 (-v)) :: st') σ
  | .lcmp => ∃ (x y : Int) (st' : List aV), st = vl y :: vl x :: st' ∧ K (pc + 1) ls (vi (c3 x y) :: st') σ
  | .pop => ∃ (v : aV) (st' : List aV), st = v :: st' ∧ aIsL v = false ∧ K (pc + 1) ls st' σ
  | .dup => ∃ (v : aV) (st' : List aV), st = v :: st' ∧ aIsL v = false ∧ K (pc + 1) ls (v :: v :: st') σ
  | .dup_x1 => ∃ (v w : aV) (st' : List aV), st = v :: w :: st' ∧ aIsL v = false ∧ aIsL w = false ∧ K (pc + 1) ls (v :: w :: v :: st') σ
  | .dup2 => (∃ (v w : aV) (st' : List aV), st = v :: w :: st' ∧ aIsL v = false ∧ aIsL w = false ∧ K (pc + 1) ls (v :: w :: v :: w :: st') σ) ∨ (∃ (v : Int) (st' : List aV), st = vl v :: st' ∧ K (pc + 1) ls (vl v :: vl v :: st') σ)
  | .ifCond b off => oIf K pc b off ls st σ
  | .if_icmp b off => oIc K pc b off ls st σ
  | .goto off => K (tg pc off) ls st σ
  | .tableswitch d lo _ offs => ∃ (v : Int) (st' : List aV), st = vi v :: st' ∧ oTsw K pc v ls st' σ lo offs.toList d
  | .lookupswitch d ps => ∃ (v : Int) (st' : List aV), st = vi v :: st' ∧ oLsw K pc v ls st' σ ps.toList d
  | .iaload => oLdX K (pc + 1) vi 1 ls st σ ∨ oLdS K (pc + 1) ls st σ
  | .laload => oLdX K (pc + 1) vl 2 ls st σ
  | .baload => oLdX K (pc + 1) vi 3 ls st σ ∨ oLdX K (pc + 1) vi 4 ls st σ ∨ oLdT K (pc + 1) ls st σ
  | .caload => oLdX K (pc + 1) vi 5 ls st σ
  | .iastore => oStX K (pc + 1) vi 1 ls st σ
  | .lastore => oStX K (pc + 1) vl 2 ls st σ
  | .bastore => oStX K (pc + 1) vi 3 ls st σ ∨ oStX K (pc + 1) vi 4 ls st σ
  | .castore => oStX K (pc + 1) vi 5 ls st σ
  | .arraylength => oLen K (pc + 1) ls st σ
  | .getfield _ => oGet ph K (pc + 3) an ls st σ
  | .putfield _ => oPut ph K (pc + 3) an ls st σ
  | .getstatic _ => (∃ ps, an = [0, ps] ∧ K (pc + 3) ls (vi 1 :: st) σ) ∨ (∃ ps, an = [1, ps] ∧ K (pc + 3) ls (vr 1300 :: st) σ)
  | .invokevirtual _ => oCall ph lm E K (pc + 3) an ls st σ
  | .invokestatic _ => oCall ph lm E K (pc + 3) an ls st σ ∨ oCopy lv K (pc + 3) an ls st σ ∨ oMth lv K (pc + 3) an ls st σ
  | .invokespecial _ => oCall ph lm E K (pc + 3) an ls st σ ∨ oObj lv K (pc + 3) an ls st σ
  | .new _ => oNew ph lm K (pc + 3) an ls st σ
  | .newarray t => oNwa ph lm K (pc + 2) (aAty t) ls st σ
  | .ireturn => ∃ v : Int, st = [vi v] ∧ (Nat.beq rt 2 = false ∧ aRg rt v) ∧ Q (some (vi v)) σ
  | .lreturn => ∃ v : Int, st = [vl v] ∧ rt = 2 ∧ Q (some (vl v)) σ
  | .return_ => st = [] ∧ rt = 0 ∧ Q none σ
  | _ => False
/-- all cells are made, every reference is what the list of cells says -/
def aFull (σ : aW) : Prop := σ 9999 0 = aNC ∧ σ 9999 1 = aSL ∧ ∀ k i : Nat, k < aNC → (aSh k).1 = 0 → i < aNf (aSh k).2.1 → aFk (aSh k).2.1 i = 0 → σ k i = aRt k i + 1
/-- how long an instruction is (0: a switch) -/
def aLn (x : Instr) : Nat := match x with
  | .bipush _ => 2
  | .sipush _ => 3
  | .ldc _ => 2
  | .ldc_w _ => 3
  | .ldc2_w _ => 3
  | .iload _ => 2
  | .lload _ => 2
  | .aload _ => 2
  | .istore _ => 2
  | .lstore _ => 2
  | .astore _ => 2
  | .iinc _ _ => 3
  | .ifCond _ _ => 3
  | .if_icmp _ _ => 3
  | .goto _ => 3
  | .tableswitch _ _ _ _ => 0
  | .lookupswitch _ _ => 0
  | .getfield _ => 3
  | .putfield _ => 3
  | .getstatic _ => 3
  | .invokevirtual _ => 3
  | .invokestatic _ => 3
  | .invokespecial _ => 3
  | .new _ => 3
  | .newarray _ => 2
  | _ => 1
def aStp (E : Bool → Nat → aT) (lv : Nat) (lm : Int × Int) (cd : List (List bE)) (rt : Nat) (Q : aQ) (K : Bool → aK) (ph : Bool) (pc : Nat) (ls st : List aV) (σ : aW) : Prop :=
  (∃ (x : Instr) (ln : Nat) (an : List Nat) (c : Int), aLook cd pc = some (pc, x, ln, an, c) ∧ (Nat.beq (aLn x) 0 || Nat.beq ln (aLn x)) = true ∧ aStep (E ph) lv lm ph rt (K ph) Q pc x an c ls st σ) ∨ (ph = false ∧ aFull σ ∧ K true pc ls st σ) ∨
  (∃ (i : Nat) (n : Int) (an : List Nat) (c v : Int), aLook cd pc = some (pc, .iinc i n, 6, an, c) ∧ nth vt ls i = vi v ∧ K ph (pc + 6) (stI ls i (vi (w32 (v + n)))) st σ)
/-- the least predicate that holds where one instruction leads into it -/
def aX (E : Bool → Nat → aT) (lv : Nat) (lm : Int × Int) (cd : List (List bE)) (rt : Nat) (Q : aQ) (ph : Bool) (pc : Nat) (ls st : List aV) (σ : aW) : Prop :=
  ∀ K : Bool → aK, (∀ ph pc ls st σ, aStp E lv lm cd rt Q K ph pc ls st σ → K ph pc ls st σ) → K ph pc ls st σ
/-- arguments as variables of a method -/
def aArg : List aV → List aV
  | [] => []
  | v :: l => bif aIsL v then v :: vt :: aArg l else v :: aArg l
def aLoc (ml : Nat) (as : List aV) : List aV := aArg as ++ List.replicate (ml - (aArg as).length) vt
/-- what a cell of a kind holds -/
def aRw (kd : Nat) (x : Int) : Prop := match kd with
  | 1 => r32 x
  | 2 => r64 x
  | 3 => x = 0 ∨ x = 1
  | 4 => -128 ≤ x ∧ x < 128
  | 5 => 0 ≤ x ∧ x < 65536
  | _ => True
def aWf (n : Nat) (σ : aW) : Prop :=
  (∀ (k i : Nat), k < n → (aSh k).1 = 0 → i < aNf (aSh k).2.1 → aRw (aFk (aSh k).2.1 i) (σ k i)) ∧
  (∀ (k : Nat) (i : Int), k < n → 0 < (aSh k).1 → 0 ≤ i → i < (aSh k).2.2 → aRw (aSh k).1 (σ k i)) ∧ (∀ i : Int, r32 (σ 1200 i)) ∧ 0 ≤ σ 9999 2 ∧ σ 9999 2 ≤ 4096
def aOk (v : aV) : Prop := match v with
  | .inl x => r32 x
  | .inr (.inl x) => r64 x
  | _ => True
/-- a method at a depth: from its arguments and a world to an answer and a world -/
def aBd (E : Bool → Nat → aT) (lv : Nat) (ph : Bool) (j : Nat) (as : List aV) (σ : aW) (Q : aQ) : Prop := aWf (aNn ph σ) σ → (∀ v ∈ as, aOk v) →
  aX E lv (match ph with
    | true => (0, 0)
    | false => (σ 9999 0 + (aMk j).1, σ 9999 1 + (aMk j).2)) (aCd j) (aRk j) (match ph with
    | true => Q
    | false => fun r σ' => Q r σ' ∧ σ' 9999 0 = σ 9999 0 + (aMk j).1 ∧ σ' 9999 1 = σ 9999 1 + (aMk j).2) ph 0 (aLoc (aMl j) as) [] σ
def aEv : Nat → Bool → Nat → aT
  | 0 => aBd (fun _ _ _ _ _ => False) 0
  | d + 1 => aBd (aEv d) (d + 1)
end
