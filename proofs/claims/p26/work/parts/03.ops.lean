/-! ===== a small machine of its own: values, memory, what each instruction asks (a predicate over what comes next) ===== -/
/-- a value: a whole number, or a reference (tag, address) -/
abbrev Vl : Type := Int32 ⊕ (Nat × Nat)
/-- the memory: whole numbers and references, by address and place -/
abbrev Mm : Type := (Nat → Nat → Int32) × (Nat → Nat → Nat)
abbrev dp_Ps : Type := Int32 → Mm → Prop
abbrev dp_Lo : Type := List (Option Vl)
abbrev dp_Rc : Type := Nat → Nat → dp_Lo → List Vl → Mm → dp_Ps → Prop
abbrev dp_Op : Type := Nat → Nat → dp_Lo → List Vl → Mm → dp_Ps → dp_Rc → Prop
abbrev vI (x : Int32) : Vl := .inl x
abbrev vR (t a : Nat) : Vl := .inr (t, a)
/-- a whole number as the machine has it -/
def jI (z : Int) : Int32 := Int32.ofInt z
def wI (G : Mm) (a k : Nat) (x : Int32) : Mm := (fun b j => if b = a ∧ j = k then x else G.1 b j, G.2)
def wR (G : Mm) (a k b : Nat) : Mm := (G.1, fun c j => if c = a ∧ j = k then b else G.2 c j)
/-- a whole row from place dp on becomes what stands in another from sp on, n numbers -/
def wC (G : Mm) (a0 sp a dp n : Nat) : Mm := (fun b j => if b = a ∧ dp ≤ j ∧ j < dp + n then G.1 a0 (sp + (j - dp)) else G.1 b j, G.2)
/-! tags: 0 to 8 the classes X0 to X8; arrays: 10 int[32], 11 int[30], 12 char[60], 13 Alarm[20], 14 Comparer[4], 15 Chip[4], 16 int[195], 17 int[780], 18 int[96] -/
def dp_al (t : Nat) : Nat := match t with
  | 10 => 32 | 11 => 30 | 12 => 60 | 13 => 20 | 14 => 4 | 15 => 4 | 16 => 195 | 17 => 780 | 18 => 96 | _ => 0
/-- the kind of an array's elements: 0 int, 1 char, 2 Alarm, 3 Comparer, 4 Chip -/
def dp_ak (t : Nat) : Nat := match t with
  | 10 => 0 | 11 => 0 | 12 => 1 | 13 => 2 | 14 => 3 | 15 => 4 | 16 => 0 | 17 => 0 | 18 => 0 | _ => 9
def dp_et (t : Nat) : Nat := match t with
  | 13 => 0 | 14 => 3 | 15 => 2 | _ => 99
def dp_nf (t : Nat) : Nat := match t with
  | 0 => 8 | 1 => 7 | 2 => 12 | 3 => 4 | 4 => 2 | 5 => 2 | 6 => 6 | 7 => 6 | 8 => 11 | _ => 0
/-- what a field that is a reference points at -/
def dp_fr (t j : Nat) : Option Nat := match t, j with
  | 1, 0 => some 12 | 1, 2 => some 11 | 1, 3 => some 11 | 1, 4 => some 11
  | 2, 8 => some 13 | 2, 9 => some 14 | 2, 10 => some 6 | 2, 11 => some 5
  | 4, 0 => some 15 | 5, 0 => some 10
  | 7, 0 => some 2 | 7, 1 => some 2 | 7, 2 => some 2 | 7, 3 => some 4 | 7, 4 => some 1
  | 8, 0 => some 16 | 8, 1 => some 16 | 8, 2 => some 17 | 8, 4 => some 16 | 8, 6 => some 12 | 8, 9 => some 18
  | _, _ => none
def dp_nth : dp_Lo → Nat → Option Vl
  | [], _ => none
  | v :: _, 0 => v
  | _ :: l, n + 1 => dp_nth l n
def dp_upd : dp_Lo → Nat → Vl → dp_Lo
  | [], _, _ => []
  | _ :: l, 0, v => some v :: l
  | w :: l, n + 1, v => w :: dp_upd l n v
def o_bad : dp_Op := fun _ _ _ _ _ _ _ => False
def o_push (x : Int32) (n : Nat) : dp_Op := fun k pc ls st G Q rec => rec k (pc + n) ls (vI x :: st) G Q
def o_iload (i n : Nat) : dp_Op := fun k pc ls st G Q rec => match dp_nth ls i with
  | some (.inl x) => rec k (pc + n) ls (vI x :: st) G Q
  | _ => False
def o_aload (i n : Nat) : dp_Op := fun k pc ls st G Q rec => match dp_nth ls i with
  | some (.inr r) => rec k (pc + n) ls (.inr r :: st) G Q
  | _ => False
def o_istore (i n : Nat) : dp_Op := fun k pc ls st G Q rec => match st with
  | .inl x :: st => rec k (pc + n) (dp_upd ls i (vI x)) st G Q
  | _ => False
def o_astore (i n : Nat) : dp_Op := fun k pc ls st G Q rec => match st with
  | .inr r :: st => rec k (pc + n) (dp_upd ls i (.inr r)) st G Q
  | _ => False
def o_inc (i : Nat) (d : Int32) : dp_Op := fun k pc ls st G Q rec => match dp_nth ls i with
  | some (.inl x) => rec k (pc + 3) (dp_upd ls i (vI (x + d))) st G Q
  | _ => False
def o_bin (f : Int32 → Int32 → Int32) : dp_Op := fun k pc ls st G Q rec => match st with
  | .inl y :: .inl x :: st => rec k (pc + 1) ls (vI (f x y) :: st) G Q
  | _ => False
def o_div : dp_Op := fun k pc ls st G Q rec => match st with
  | .inl y :: .inl x :: st => ¬ y = jI 0 ∧ rec k (pc + 1) ls (vI (x / y) :: st) G Q
  | _ => False
def o_rem : dp_Op := fun k pc ls st G Q rec => match st with
  | .inl y :: .inl x :: st => ¬ y = jI 0 ∧ rec k (pc + 1) ls (vI (x - x / y * y) :: st) G Q
  | _ => False
def o_if (c : Int32 → Prop) (tgt : Nat) : dp_Op := fun k pc ls st G Q rec => match st with
  | .inl x :: st => (c x → rec k tgt ls st G Q) ∧ (¬ c x → rec k (pc + 3) ls st G Q)
  | _ => False
def o_cmp (c : Int32 → Int32 → Prop) (tgt : Nat) : dp_Op := fun k pc ls st G Q rec => match st with
  | .inl y :: .inl x :: st => (c x y → rec k tgt ls st G Q) ∧ (¬ c x y → rec k (pc + 3) ls st G Q)
  | _ => False
def o_goto (tgt : Nat) : dp_Op := fun k _ ls st G Q rec => rec k tgt ls st G Q
def o_dup : dp_Op := fun k pc ls st G Q rec => match st with
  | v :: st => rec k (pc + 1) ls (v :: v :: st) G Q
  | _ => False
def o_dup2 : dp_Op := fun k pc ls st G Q rec => match st with
  | v :: w :: st => rec k (pc + 1) ls (v :: w :: v :: w :: st) G Q
  | _ => False
def o_pop : dp_Op := fun k pc ls st G Q rec => match st with
  | _ :: st => rec k (pc + 1) ls st G Q
  | _ => False
def o_getI (t j : Nat) : dp_Op := fun k pc ls st G Q rec => match st with
  | .inr r :: st => cond (Nat.beq r.1 t) (rec k (pc + 3) ls (vI (G.1 r.2 j) :: st) G Q) False
  | _ => False
def o_getR (t j u : Nat) : dp_Op := fun k pc ls st G Q rec => match st with
  | .inr r :: st => cond (Nat.beq r.1 t) (rec k (pc + 3) ls (vR u (G.2 r.2 j) :: st) G Q) False
  | _ => False
def o_putI (t j : Nat) : dp_Op := fun k pc ls st G Q rec => match st with
  | .inl x :: .inr r :: st => cond (Nat.beq r.1 t) (rec k (pc + 3) ls st (wI G r.2 j x) Q) False
  | _ => False
def o_putZ (t j : Nat) : dp_Op := fun k pc ls st G Q rec => match st with
  | .inl x :: .inr r :: st => cond (Nat.beq r.1 t) ((x = jI 0 ∨ x = jI 1) ∧ rec k (pc + 3) ls st (wI G r.2 j x) Q) False
  | _ => False
def o_iald : dp_Op := fun k pc ls st G Q rec => match st with
  | .inl i :: .inr r :: st => cond (Nat.beq (dp_ak r.1) 0) (vp_in i (dp_al r.1) ∧ rec k (pc + 1) ls (vI (G.1 r.2 i.toNatClampNeg) :: st) G Q) False
  | _ => False
def o_cald : dp_Op := fun k pc ls st G Q rec => match st with
  | .inl i :: .inr r :: st => cond (Nat.beq (dp_ak r.1) 1) (vp_in i (dp_al r.1) ∧ rec k (pc + 1) ls (vI (G.1 r.2 i.toNatClampNeg) :: st) G Q) False
  | _ => False
def o_aald : dp_Op := fun k pc ls st G Q rec => match st with
  | .inl i :: .inr r :: st => cond (Nat.ble 13 r.1 && Nat.ble r.1 15) (vp_in i (dp_al r.1) ∧ rec k (pc + 1) ls (vR (dp_et r.1) (G.2 r.2 i.toNatClampNeg) :: st) G Q) False
  | _ => False
def o_iast : dp_Op := fun k pc ls st G Q rec => match st with
  | .inl x :: .inl i :: .inr r :: st => cond (Nat.beq (dp_ak r.1) 0) (vp_in i (dp_al r.1) ∧ rec k (pc + 1) ls st (wI G r.2 i.toNatClampNeg x) Q) False
  | _ => False
def o_cast : dp_Op := fun k pc ls st G Q rec => match st with
  | .inl x :: .inl i :: .inr r :: st => cond (Nat.beq (dp_ak r.1) 1) (vp_in i (dp_al r.1) ∧ vp_nar .char x = x ∧ rec k (pc + 1) ls st (wI G r.2 i.toNatClampNeg x) Q) False
  | _ => False
def o_aast : dp_Op := fun k pc ls st G Q rec => match st with
  | .inr v :: .inl i :: .inr r :: st => cond (Nat.ble 13 r.1 && Nat.ble r.1 15 && Nat.beq v.1 (dp_et r.1)) (vp_in i (dp_al r.1) ∧ rec k (pc + 1) ls st (wR G r.2 i.toNatClampNeg v.2) Q) False
  | _ => False
def o_max : dp_Op := fun k pc ls st G Q rec => match st with
  | .inl y :: .inl x :: st => cond (Nat.ble st.length 8) (rec k (pc + 3) ls (vI (if x < y then y else x) :: st) G Q) False
  | _ => False
def o_min : dp_Op := fun k pc ls st G Q rec => match st with
  | .inl y :: .inl x :: st => cond (Nat.ble st.length 8) (rec k (pc + 3) ls (vI (if y < x then y else x) :: st) G Q) False
  | _ => False
def o_acp : dp_Op := fun k pc ls st G Q rec => match st with
  | .inl n :: .inl d :: .inr r :: .inl s :: .inr q :: st => cond (Nat.beq (dp_ak r.1) 0 && Nat.beq (dp_ak q.1) 0 && Nat.ble st.length 8)
      ((¬ s < 0 ∧ ¬ d < 0 ∧ ¬ n < 0 ∧ s.toNatClampNeg + n.toNatClampNeg ≤ dp_al q.1 ∧ d.toNatClampNeg + n.toNatClampNeg ≤ dp_al r.1) ∧ rec k (pc + 3) ls st (wC G q.2 s.toNatClampNeg r.2 d.toNatClampNeg n.toNatClampNeg) Q) False
  | _ => False
def dp_sw (f : Nat → Prop) : List Nat → Int → Int32 → Nat → Prop
  | [], _, _, d => f d
  | t :: ts, lo, x, d => (x.toInt = lo → f t) ∧ (¬ x.toInt = lo → dp_sw f ts (lo + 1) x d)
def o_tsw (lo : Int) (ts : List Nat) (d : Nat) : dp_Op := fun k _ ls st G Q rec => match st with
  | .inl x :: st => dp_sw (fun t => rec k t ls st G Q) ts lo x d
  | _ => False
def o_iret : dp_Op := fun _ _ _ st G Q _ => match st with
  | [.inl x] => Q x G
  | _ => False
def o_zret : dp_Op := fun _ _ _ st G Q _ => match st with
  | [.inl x] => (x = jI 0 ∨ x = jI 1) ∧ Q x G
  | _ => False
def o_vret : dp_Op := fun _ _ _ st G Q _ => match st with
  | [] => Q (jI 0) G
  | _ => False
/-- locals at a method's entry: its arguments, the rest unset -/
def dp_pad : Nat → dp_Lo
  | 0 => []
  | n + 1 => none :: dp_pad n
def dp_ini : Nat → List Vl → dp_Lo
  | 0, _ => []
  | n + 1, [] => none :: dp_ini n []
  | n + 1, v :: l => some v :: dp_ini n l
/-- a static method of n arguments, with mL locals; vd: it answers nothing -/
def o_call (k' mL n : Nat) (vd : Bool) : dp_Op := fun k pc ls st G Q rec => cond (Nat.ble n st.length && Nat.ble (st.drop n).length 8)
  (rec k' 0 (dp_ini mL (st.take n).reverse) [] G (fun x G' => rec k (pc + 3) ls (cond vd (st.drop n) (vI x :: st.drop n)) G' Q)) False
/-- a method of an object of tag t, with n arguments beside it -/
def o_callV (k' mL t n : Nat) (vd : Bool) : dp_Op := fun k pc ls st G Q rec => match st.drop n with
  | .inr r :: rest => cond (Nat.beq r.1 t && Nat.ble rest.length 8)
      (rec k' 0 (dp_ini mL (.inr r :: (st.take n).reverse)) [] G (fun x G' => rec k (pc + 3) ls (cond vd rest (vI x :: rest)) G' Q)) False
  | _ => False

