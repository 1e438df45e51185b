def br (P A B : Prop) : Prop := (P → A) ∧ (¬ P → B)
def s1i (st : List AV) (f : Int → List AV → Prop) : Prop := match st with | .inl x :: r => f x r | _ => False
def s2i (st : List AV) (f : Int → Int → List AV → Prop) : Prop := match st with | .inl y :: .inl x :: r => f x y r | _ => False
def s1l (st : List AV) (f : Int → List AV → Prop) : Prop := match st with | .inr (.inl x) :: r => f x r | _ => False
def s2l (st : List AV) (f : Int → Int → List AV → Prop) : Prop := match st with | .inr (.inl y) :: .inr (.inl x) :: r => f x y r | _ => False
def s1d (st : List AV) (f : UInt64 → List AV → Prop) : Prop := match st with | .inr (.inr (.inr (.inl x))) :: r => f x r | _ => False
def s2d (st : List AV) (f : UInt64 → UInt64 → List AV → Prop) : Prop := match st with | .inr (.inr (.inr (.inl y))) :: .inr (.inr (.inr (.inl x))) :: r => f x y r | _ => False
def s1r (st : List AV) (f : Nat → Nat → List AV → Prop) : Prop := match st with | .inr (.inr (.inl q)) :: r => f q.1 q.2 r | _ => False
/-- a number over a reference -/
def sir (st : List AV) (f : Int → Nat → Nat → List AV → Prop) : Prop := match st with | .inl x :: .inr (.inr (.inl q)) :: r => f x q.1 q.2 r | _ => False
/-- two numbers over a reference: value x, place j -/
def siir (st : List AV) (f : Int → Int → Nat → Nat → List AV → Prop) : Prop := match st with | .inl x :: .inl j :: .inr (.inr (.inl q)) :: r => f x j q.1 q.2 r | _ => False
def slir (st : List AV) (f : Int → Int → Nat → Nat → List AV → Prop) : Prop := match st with | .inr (.inl x) :: .inl j :: .inr (.inr (.inl q)) :: r => f x j q.1 q.2 r | _ => False
def srir (st : List AV) (f : Nat → Nat → Int → Nat → Nat → List AV → Prop) : Prop := match st with | .inr (.inr (.inl v)) :: .inl j :: .inr (.inr (.inl q)) :: r => f v.1 v.2 j q.1 q.2 r | _ => False
/-- any one, any two values of one word each -/
def c1 (v : AV) : Prop := match v with | .inl _ => True | .inr (.inr (.inl _)) => True | _ => False
def s1v (st : List AV) (f : AV → List AV → Prop) : Prop := match st with | v :: r => c1 v ∧ f v r | _ => False
def s2v (st : List AV) (f : AV → AV → List AV → Prop) : Prop := match st with | v :: w :: r => c1 v ∧ c1 w ∧ f v w r | _ => False
def ldv (ls : List AV) (k : Nat) (f : AV → Prop) : Prop := match ls[k]? with | some v => f v | none => False
def ldx (ls : List AV) (k : Nat) (f : Int → Prop) : Prop := match ls[k]? with | some (.inl x) => f x | _ => False
def ldi (ls : List AV) (k : Nat) (f : AV → Prop) : Prop := ldv ls k fun v => match v with | .inl _ => f v | _ => False
def ldl (ls : List AV) (k : Nat) (f : AV → Prop) : Prop := ldv ls k fun v => match v with | .inr (.inl _) => f v | _ => False
def ldr (ls : List AV) (k : Nat) (f : AV → Prop) : Prop := ldv ls k fun v => match v with | .inr (.inr (.inl _)) => f v | _ => False
def ldd (ls : List AV) (k : Nat) (f : AV → Prop) : Prop := ldv ls k fun v => match v with | .inr (.inr (.inr (.inl _))) => f v | _ => False
def st1 (ls : List AV) (k : Nat) (v : AV) (f : List AV → Prop) : Prop := k < ls.length ∧ nc2 ls k ∧ f (ls.set k v)
def st2 (ls : List AV) (k : Nat) (v : AV) (f : List AV → Prop) : Prop := k + 1 < ls.length ∧ nc2 ls k ∧ f ((ls.set k v).set (k + 1) vj)
def jo (pc : Nat) (off : Int) : Prop := 0 ≤ (pc : Int) + off
def jk (pc : Nat) (off : Int) (f : Nat → Prop) : Prop := 0 ≤ (pc : Int) + off ∧ f ((pc : Int) + off).toNat
def cmpb (op : Jvm.ClassFile.Cond) (x y : Int) (A B : Prop) : Prop := match op with
  | .eq => br (x = y) A B | .ne => br (x = y) B A | .lt => br (x < y) A B | .ge => br (x < y) B A | .gt => br (y < x) A B | .le => br (y < x) B A
def tsw (pc : Nat) (d : Int) (f : Nat → Prop) (x : Int) : Int → List Int → Prop
  | _, [] => jk pc d f
  | lo, o :: r => br (x = lo) (jk pc o f) (tsw pc d f x (lo + 1) r)
def lsw (pc : Nat) (d : Int) (f : Nat → Prop) (x : Int) : List (Int × Int) → Prop
  | [] => jk pc d f
  | q :: r => br (x = q.1) (jk pc q.2 f) (lsw pc d f x r)
abbrev Par : Type := FtT × CsT × List (Nat × Nat) × List (Nat × Int) × Nat × Nat × Option (Nat × (Nat → Int))
def rcv (rc : Nat) (a : List AV) : Prop := rc = 0 ∨ match a with
  | .inr (.inr (.inl q)) :: _ => q.1 + 1 = rc ∧ q.2 < cnt q.1 ∧ q.1 < 9
  | _ => False
section SF
variable (P : Par) (K : Option AV → Sto → Prop) (X : Nat → Nat → List AV → Sto → Nat → Prop) (N : Nat → List AV → List AV → Sto → Nat → Prop)
def callf (idx : Nat) (st : Bool) (pc : Nat) (ls s : List AV) (σ : Sto) (k : Nat) : Prop := match P.2.1.lookup idx with
  | some q => (st = true ↔ q.2.2.1 = 0) ∧ q.1 ≤ s.length ∧ rcv q.2.2.1 (s.take q.1).reverse ∧ (s.drop q.1).length ≤ 4 ∧ k + q.2.1 ≤ P.2.2.2.2.2.1 ∧
      q.2.2.2 (s.take q.1).reverse σ (fun r σ' => N (pc + 3) ls (r.toList ++ s.drop q.1) σ' (k + q.2.1)) (fun e σ' => X pc e ls σ' (k + q.2.1))
  | none => False
def rd (c i : Nat) (j : Int) (σ : Sto) (f : AV → Prop) : Prop := c < 15 ∧ i < cnt c ∧ 0 ≤ j ∧ j < alen c i ∧ f (vi (σ c i j.toNat))
def scrd (j : Int) (f : AV → Prop) : Prop := match P.2.2.2.2.2.2 with | some q => 0 ≤ j ∧ j < q.1 ∧ f (vi (q.2 j.toNat)) | none => False
def rt (st : List AV) (f : AV → Prop) : Prop := match st with | [v] => f v | _ => False
def bitOK (x : Int) : Prop := x = 0 ∨ x = 1
def stepf (i : Instr) (len pc : Nat) (ls st : List AV) (σ : Sto) (k : Nat) : Prop := match i with
  | .iconst n => len = 1 ∧ N (pc + 1) ls (vi n :: st) σ k
  | .bipush n => len = 2 ∧ -128 ≤ n ∧ n < 128 ∧ N (pc + 2) ls (vi n :: st) σ k
  | .sipush n => len = 3 ∧ -32768 ≤ n ∧ n < 32768 ∧ N (pc + 3) ls (vi n :: st) σ k
  | .lconst n => len = 1 ∧ N (pc + 1) ls (vl (n : Nat) :: st) σ k
  | .iload_n n => len = 1 ∧ ldi ls n fun v => N (pc + 1) ls (v :: st) σ k
  | .iload n => len = 2 ∧ ldi ls n fun v => N (pc + 2) ls (v :: st) σ k
  | .lload_n n => len = 1 ∧ ldl ls n fun v => N (pc + 1) ls (v :: st) σ k
  | .lload n => len = 2 ∧ ldl ls n fun v => N (pc + 2) ls (v :: st) σ k
  | .dload n => len = 2 ∧ ldd ls n fun v => N (pc + 2) ls (v :: st) σ k
  | .aload_n n => len = 1 ∧ ldr ls n fun v => N (pc + 1) ls (v :: st) σ k
  | .aload n => len = 2 ∧ ldr ls n fun v => N (pc + 2) ls (v :: st) σ k
  | .istore_n n => len = 1 ∧ s1i st fun x r => st1 ls n (vi x) fun ls => N (pc + 1) ls r σ k
  | .istore n => len = 2 ∧ s1i st fun x r => st1 ls n (vi x) fun ls => N (pc + 2) ls r σ k
  | .astore_n n => len = 1 ∧ s1r st fun c i r => st1 ls n (vr c i) fun ls => N (pc + 1) ls r σ k
  | .astore n => len = 2 ∧ s1r st fun c i r => st1 ls n (vr c i) fun ls => N (pc + 2) ls r σ k
  | .lstore_n n => len = 1 ∧ s1l st fun x r => st2 ls n (vl x) fun ls => N (pc + 1) ls r σ k
  | .lstore n => len = 2 ∧ s1l st fun x r => st2 ls n (vl x) fun ls => N (pc + 2) ls r σ k
  | .dstore n => len = 2 ∧ s1d st fun x r => st2 ls n (vd x) fun ls => N (pc + 2) ls r σ k
  | .iinc n d => len = 3 ∧ ldx ls n fun x => st1 ls n (vi (x + d)) fun ls => N (pc + 3) ls st σ k
  | .iadd => len = 1 ∧ s2i st fun x y r => N (pc + 1) ls (vi (x + y) :: r) σ k
  | .isub => len = 1 ∧ s2i st fun x y r => N (pc + 1) ls (vi (x - y) :: r) σ k
  | .imul => len = 1 ∧ s2i st fun x y r => N (pc + 1) ls (vi (x * y) :: r) σ k
  | .ineg => len = 1 ∧ s1i st fun x r => N (pc + 1) ls (vi (-x) :: r) σ k
  | .idiv => len = 1 ∧ s2i st fun x y r => 0 ≤ x ∧ inR x ∧ 0 < y ∧ inR y ∧ N (pc + 1) ls (vi (x / y) :: r) σ k
  | .irem => len = 1 ∧ s2i st fun x y r => 0 ≤ x ∧ inR x ∧ 0 < y ∧ inR y ∧ N (pc + 1) ls (vi (x % y) :: r) σ k
  | .iand => len = 1 ∧ s2i st fun _ y r => y = 31 ∧ ∀ z, 0 ≤ z → z < 32 → N (pc + 1) ls (vi z :: r) σ k
  | .i2l => len = 1 ∧ s1i st fun x r => inR x ∧ N (pc + 1) ls (vl x :: r) σ k
  | .ladd => len = 1 ∧ s2l st fun x y r => N (pc + 1) ls (vl (x + y) :: r) σ k
  | .lsub => len = 1 ∧ s2l st fun x y r => N (pc + 1) ls (vl (x - y) :: r) σ k
  | .lmul => len = 1 ∧ s2l st fun x y r => N (pc + 1) ls (vl (x * y) :: r) σ k
  | .lcmp => len = 1 ∧ s2l st fun x y r => br (x = y) (N (pc + 1) ls (vi 0 :: r) σ k) (inL x ∧ inL y ∧ br (x < y) (N (pc + 1) ls (vi (-1) :: r) σ k) (N (pc + 1) ls (vi 1 :: r) σ k))
  | .i2d => len = 1 ∧ s1i st fun x r => N (pc + 1) ls (vd (FP.i2d (Int32.ofInt x)) :: r) σ k
  | .ddiv => len = 1 ∧ s2d st fun x y r => vf_n64 (FP.ddiv x y) ∧ N (pc + 1) ls (vd (FP.ddiv x y) :: r) σ k
  | .dcmp op => len = 1 ∧ s2d st fun x y r => N (pc + 1) ls (vi (Op.cmpValue (FP.dcmp x y) op).toInt :: r) σ k
  | .dup => len = 1 ∧ s1v st fun v r => N (pc + 1) ls (v :: v :: r) σ k
  | .dup2 => len = 1 ∧ s2v st fun v w r => N (pc + 1) ls (v :: w :: v :: w :: r) σ k
  | .pop => len = 1 ∧ s1v st fun _ r => N (pc + 1) ls r σ k
  | .goto off => len = 3 ∧ jk pc off fun t => N t ls st σ k
  | .ifCond op off => len = 3 ∧ jo pc off ∧ s1i st fun x r => inR x ∧ cmpb op x 0 (jk pc off fun t => N t ls r σ k) (N (pc + 3) ls r σ k)
  | .if_icmp op off => len = 3 ∧ jo pc off ∧ s2i st fun x y r => inR x ∧ inR y ∧ cmpb op x y (jk pc off fun t => N t ls r σ k) (N (pc + 3) ls r σ k)
  | .tableswitch d lo hi offs => s1i st fun x r => inR x ∧ (offs.toList.length : Int) = hi - lo + 1 ∧ tsw pc d (fun t => N t ls r σ k) x lo offs.toList
  | .lookupswitch d ps => s1i st fun x r => inR x ∧ ((ps.toList.zip (ps.toList.drop 1)).all fun (a, next) => a.1 < next.1) = true ∧ lsw pc d (fun t => N t ls r σ k) x ps.toList
  | .getfield idx => len = 3 ∧ match P.1.lookup idx with
    | some q => s1r st fun c i r => c = q.1 ∧ i < cnt q.1 ∧ N (pc + 3) ls (fg σ q.1 i q.2 :: r) σ k
    | none => False
  | .putfield idx => len = 3 ∧ match P.1.lookup idx with
    | some q => sir st fun x c i r => c = q.1 ∧ i < cnt q.1 ∧ fk q.1 q.2 ≠ 2 ∧ (fk q.1 q.2 = 0 ∨ bitOK x) ∧ N (pc + 3) ls r (up3 σ q.1 i q.2 x) k
    | none => False
  | .iaload => len = 1 ∧ sir st fun j c i r => br (c = 20) (scrd P j fun v => N (pc + 1) ls (v :: r) σ k) ((c = 10 ∨ c = 12) ∧ rd c i j σ fun v => N (pc + 1) ls (v :: r) σ k)
  | .baload => len = 1 ∧ sir st fun j c i r => c = 13 ∧ rd c i j σ fun v => N (pc + 1) ls (v :: r) σ k
  | .laload => len = 1 ∧ sir st fun j c i r => c = 14 ∧ i = 0 ∧ j = 0 ∧ N (pc + 1) ls (vl (σ 14 0 0) :: r) σ k
  | .aaload => len = 1 ∧ sir st fun j c i r => (c = 9 ∨ c = 11) ∧ i < cnt c ∧ 0 ≤ j ∧ j < alen c i ∧ N (pc + 1) ls (vr (if c = 9 then 2 else 1) (σ c i j.toNat).toNat :: r) σ k
  | .iastore => len = 1 ∧ siir st fun x j c i r => (c = 10 ∨ c = 12) ∧ i < cnt c ∧ 0 ≤ j ∧ j < alen c i ∧ N (pc + 1) ls r (up3 σ c i j.toNat x) k
  | .bastore => len = 1 ∧ siir st fun x j c i r => c = 13 ∧ bitOK x ∧ i < cnt c ∧ 0 ≤ j ∧ j < alen c i ∧ N (pc + 1) ls r (up3 σ c i j.toNat x) k
  | .lastore => len = 1 ∧ slir st fun x j c i r => c = 14 ∧ i = 0 ∧ j = 0 ∧ N (pc + 1) ls r (up3 σ 14 0 0 x) k
  | .aastore => len = 1 ∧ srir st fun vc v j c i r => (c = 9 ∧ vc = 2 ∨ c = 11 ∧ vc = 1) ∧ v < cnt vc ∧ i < cnt c ∧ 0 ≤ j ∧ j < alen c i ∧ N (pc + 1) ls r (up3 σ c i j.toNat v) k
  | .arraylength => len = 1 ∧ s1r st fun c i r => br (c = 20) (match P.2.2.2.2.2.2 with | some q => N (pc + 1) ls (vi q.1 :: r) σ k | none => False) (9 ≤ c ∧ c < 15 ∧ i < cnt c ∧ N (pc + 1) ls (vi (alen c i) :: r) σ k)
  | .ldc2_w idx => len = 3 ∧ match P.2.2.2.1.lookup idx with
    | some q => N (pc + 3) ls (vl q :: st) σ k
    | none => False
  | .invokevirtual idx => len = 3 ∧ callf P X N idx false pc ls st σ k
  | .invokestatic idx => len = 3 ∧ callf P X N idx true pc ls st σ k
  | .new idx => len = 3 ∧ match P.2.2.1.lookup pc with
    | some e => st = [] ∧ k + 1 ≤ P.2.2.2.2.2.1 ∧ X pc e ls σ (k + 1)
    | none => False
  | .ireturn => len = 1 ∧ k ≤ P.2.2.2.2.2.1 ∧ rt st fun v => match v with | .inl x => (P.2.2.2.2.1 = 1 ∨ P.2.2.2.2.1 = 2 ∧ bitOK x) ∧ K (some (vi x)) σ | _ => False
  | .lreturn => len = 1 ∧ k ≤ P.2.2.2.2.2.1 ∧ rt st fun v => match v with | .inr (.inl x) => P.2.2.2.2.1 = 3 ∧ K (some (vl x)) σ | _ => False
  | .dreturn => len = 1 ∧ k ≤ P.2.2.2.2.2.1 ∧ rt st fun v => match v with | .inr (.inr (.inr (.inl x))) => P.2.2.2.2.1 = 4 ∧ K (some (vd x)) σ | _ => False
  | .return_ => len = 1 ∧ k ≤ P.2.2.2.2.2.1 ∧ st = [] ∧ P.2.2.2.2.1 = 0 ∧ K none σ
  | _ => False
/-- one instruction at pc -/
def stepd (cc : ByteArray) (pc : Nat) (ls st : List AV) (σ : Sto) (k : Nat) : Prop := match decode cc pc with
  | .ok q => stepf P K X N q.1 q.2 pc ls st σ k
  | _ => False
end SF
/-- a property of points that every instruction hands back -/
def Clo (P : Par) (K : Option AV → Sto → Prop) (X : Nat → Nat → List AV → Sto → Nat → Prop) (cc : ByteArray) (G : Nat → List AV → List AV → Sto → Nat → Prop) : Prop := ∀ (N : Nat → List AV → List AV → Sto → Nat → Prop), (∀ pc ls st σ k, N pc ls st σ k → G pc ls st σ k) → ∀ pc ls st σ k, stepd P K X N cc pc ls st σ k → G pc ls st σ k
def wpn (P : Par) (K : Option AV → Sto → Prop) (X : Nat → Nat → List AV → Sto → Nat → Prop) (cc : ByteArray) (G : Nat → List AV → List AV → Sto → Nat → Prop) (stops : List Nat) : Nat → Nat → List AV → List AV → Sto → Nat → Prop
  | 0 => G
  | n + 1 => fun pc ls st σ k => if stops.contains pc = true then G pc ls st σ k else stepd P K X (wpn P K X cc G stops n) cc pc ls st σ k
theorem wpn_ok {P : Par} {K : Option AV → Sto → Prop} {X : Nat → Nat → List AV → Sto → Nat → Prop} {cc : ByteArray} {G : Nat → List AV → List AV → Sto → Nat → Prop} (h : Clo P K X cc G) (stops : List Nat) : ∀ n pc ls st σ k, wpn P K X cc G stops n pc ls st σ k → G pc ls st σ k := by
  intro n
  induction n with
  | zero => intro pc ls st σ k h; exact h
  | succ n ih =>
    intro pc ls st σ k hw
    unfold wpn at hw
    split at hw
    · exact hw
    · exact h _ ih pc ls st σ k hw
/-- n instructions from here, up to the stops -/
theorem run {P : Par} {K : Option AV → Sto → Prop} {X : Nat → Nat → List AV → Sto → Nat → Prop} {cc : ByteArray} {G : Nat → List AV → List AV → Sto → Nat → Prop} (h : Clo P K X cc G) (stops : List Nat) (n : Nat) {pc : Nat} {ls st : List AV} {σ : Sto} {k : Nat} (hs : stepd P K X (wpn P K X cc G stops n) cc pc ls st σ k) : G pc ls st σ k := h _ (wpn_ok h stops n) pc ls st σ k hs
/-- the locals at a method's entry: long and double take two places -/
def entL : List AV → List AV
  | [] => []
  | v :: r => match v with
    | .inr (.inl x) => .inr (.inl x) :: vj :: entL r
    | .inr (.inr (.inr (.inl d))) => .inr (.inr (.inr (.inl d))) :: vj :: entL r
    | v => v :: entL r
def ent (n : Nat) (a : List AV) : List AV := entL a ++ List.replicate (n - (entL a).length) vj
/-- a body does what sp says, whatever runs it -/
def Sem (P : Par) (cc : ByteArray) (maxL : Nat) (sp : Spec) : Prop := ∀ (a : List AV) (σ : Sto) (K : Option AV → Sto → Prop) (KX : Nat → Sto → Prop), sp a σ K KX → (∀ v ∈ a, nj v) ∧ (entL a).length ≤ maxL ∧ ∀ G, Clo P K (fun _ e _ σ k => k ≤ P.2.2.2.2.2.1 ∧ KX e σ) cc G → G 0 (ent maxL a) [] σ 0
