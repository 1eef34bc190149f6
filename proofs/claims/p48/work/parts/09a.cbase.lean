section ZCA
/-! the class's own state, by canonical ids -/
def co (o : Nat) : Nat := if o = 0 then 10 else if o < 5 then 0 else if o < 7 then 5 else if o < 100 then 99 else if o < 500 then (match o % 100 with | 0 => 8 | 1 => 4 | 2 => 5 | 3 => 5 | 4 => 9 | 5 => 3 | 6 => 0 | 7 => 5 | 8 => 2 | j => if 20 ≤ j ∧ j < 30 then 7 else 99) else if o < 600 then 99 else if o < 700 then 5 else if o < 800 then 1 else if o < 900 then 6 else 99
theorem co_lt {o : Nat} (h : co o ≠ 99) : o < 900 := by
  refine Nat.not_le.mp fun q => h ?_
  unfold co
  rw [if_neg (by omega), if_neg (by omega), if_neg (by omega), if_neg (by omega), if_neg (by omega), if_neg (by omega), if_neg (by omega), if_neg (by omega), if_neg (by omega)]
def cIs (o : Nat) : Option (Nat × Nat) := if o < 1000 then none else if o < 2000 then (match co (o - 1000) with | 5 => some (0, 56) | 4 => some (0, 6) | 9 => some (1, 9) | 2 => some (0, 6) | 1 => some (0, 10) | _ => none) else if co (o - 2000) = 4 then some (0, 6) else none
def child (L i : Nat) : Nat := if L = 1 then 100 * (i + 1) else if L = 2 then 600 + i else if L = 3 then 700 + i else if L = 4 then 800 + i else L + 14 + i
def clothv (x : Int32) : Option Nat := if x = 0 then none else some (699 + x.toNatClampNeg)
def cloth1 (v : Option Nat) : Int32 := match v with | none => 0 | some i => Int32.ofNat (i - 699)
def cloth (κ : zzM) (o : Nat) : Option Nat := clothv (κ o 3)
def cFs (ad : Nat → Nat) (t0 : Nat) (f : Nat → Int32) (g : Nat → Int64) (ci o : Nat) : List Value := match ci with
  | 10 => [.ref (ad (o + 1)), .ref (ad (o + 2)), .ref (ad (o + 3)), .ref (ad (o + 4)), .ref (ad (o + 5)), .ref (ad (o + 6))]
  | 8 => [.ref (ad (o + 1)), .ref (ad (o + 4)), .ref (ad (o + 5)), .ref (ad (o + 7)), .ref (ad (o + 8)), .int (f 5)]
  | 4 => [.int (f 0), .int (f 1), .int (f 2), .ref (ad (o + 1)), .ref (ad (o + 2)), .ref (ad (o + 1000)), .ref (ad (o + 2000))]
  | 9 => [.ref (ad (o + 1000)), .int (f 1), .int (f 2)]
  | 3 => [.ref (ad (o + 1))]
  | 5 => [.ref (ad (o + 1000))]
  | 2 => [.ref (ad (o + 1000)), .int (f 1), .int (f 2), va_rf (Option.map ad (clothv (f 3))), .int (f 4), .int (f 5), .int (f 6)]
  | 1 => [.int (f 0), .int (f 1), .ref (ad (o + 1000)), .int (f 3), .int (f 4)]
  | 6 => [.int (f 0), .int (f 1)]
  | 7 => [.int (f 0), .int (f 1), .int (f 2), .int (f 3), .long (g 4), .int (f 5)]
  | 0 => [.int (f 0), .ref (if f 3 = 0 then t0 else ad (o + 1000)), .int (f 2)]
  | _ => []
def cCell (ad : Nat → Nat) (t0 : Nat) (κ : zzM) (ν : zzN) (o : Nat) : Option zz_C :=
  if o < 1000 then (if co o = 99 then none else some (.inr (co o, cFs ad t0 (κ o) (ν o) (co o) o))) else match cIs o with
  | some (t, n) => some (zz_I t n (κ o))
  | none => if o < 2000 ∧ co (o - 1000) = 0 then some (zz_Q 5 10 (fun i => if i < (κ (o - 1000) 2).toNatClampNeg then some (ad (child (o - 1000) i)) else none)) else none
def zc (h : zz_H) (ad : Nat → Nat) (iv : Nat → Option Nat) (t0 : Nat) (κ : zzM) (ν : zzN) : zz_H := fun q => match iv q with
  | some o => cCell ad t0 κ ν o
  | none => h q
/-- the operations -/
def cgd (lv : Nat → Bool) (ci o : Nat) {α : Type} (x : Option α) : Option α := if lv o = true ∧ co o = ci then x else none
def cgc (v : Option Nat) {α : Type} (x : Option α) : Option α := if clothv (cloth1 v) = v then x else none
def cgn (lv : Nat → Bool) (ci : Nat) (v : Option Nat) {α : Type} (K : Nat → Option α) : Option α := match v with
  | some o => cgd lv ci o (K o)
  | none => none
def ceq (lv : Nat → Bool) (v w : Option Nat) {α : Type} (x y : Option α) : Option α := if (∀ o, v = some o → lv o = true) ∧ (∀ o, w = some o → lv o = true) then (if v = w then x else y) else none
def cai (lv : Nat → Bool) (t : Nat) (κ : zzM) (o : Nat) (i : Int32) {α : Type} (K : Int32 → Option α) : Option α := match cIs o with
  | some (t', n) => if lv o = true ∧ t' = t ∧ ¬ (i < 0 ∨ n ≤ i.toNatClampNeg) then K (κ o i.toNatClampNeg) else none
  | none => none
def csi (lv : Nat → Bool) (t : Nat) (κ : zzM) (o : Nat) (i x : Int32) {α : Type} (K : zzM → Option α) : Option α := match cIs o with
  | some (t', n) => if lv o = true ∧ t' = t ∧ ¬ (i < 0 ∨ n ≤ i.toNatClampNeg) then K (zset κ o i.toNatClampNeg x) else none
  | none => none
def clen (lv : Nat → Bool) (o : Nat) {α : Type} (K : Int32 → Option α) : Option α := match cIs o with
  | some (t, n) => if lv o = true ∧ t < 12 then K (Int32.ofNat n) else none
  | none => none
def cget (lv : Nat → Bool) (κ : zzM) (o : Nat) (i : Int32) {α : Type} (K : Nat → Option α) : Option α := if lv o = true ∧ co o = 0 ∧ lv (o + 1000) = true ∧ ¬ κ o 3 = 0 ∧ ¬ i < 0 ∧ i < κ o 2 ∧ (κ o 2).toNatClampNeg ≤ 10 then K (child o i.toNatClampNeg) else none
def cemp (κ : zzM) (o : Nat) : Int32 := if κ o 2 = 0 then 1 else 0
def crem (lv : Nat → Bool) (κ : zzM) (o : Nat) (i : Int32) {α : Type} (K : Nat → zzM → Option α) : Option α := if lv o = true ∧ co o = 0 ∧ lv (o + 1000) = true ∧ ¬ κ o 3 = 0 ∧ ¬ i < 0 ∧ i < κ o 2 ∧ i + 1 = κ o 2 ∧ (κ o 2).toNatClampNeg ≤ 10 then K (child o i.toNatClampNeg) (zset (zset κ o 2 i) o 0 (κ o 0 + 1)) else none
def cfil (lv : Nat → Bool) (κ : zzM) (o : Nat) (x : Int32) {α : Type} (K : zzM → Option α) : Option α := match cIs o with
  | some (t, n) => if lv o = true ∧ t = 0 then K (fun o' i' => if o' = o ∧ i' < n then x else κ o' i') else none
  | none => none
end ZCA
