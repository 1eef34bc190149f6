section ZXL
/-! body: the whole case -/
variable {ad : Nat → Nat} {iv : Nat → Option Nat} {lv : Nat → Bool} {t0 base : Nat} {ow : zz_H} {κ : zzM} {νc : zzN} {μ : zzM} {ν : zzN} {H : Int} {nS nB nK : Nat} {h : zz_H} {n : Nat}
theorem adN_t {nw : Nat → Bool} {ad2 ad : Nat → Nat} {x : Nat} (h : nw x = true) : adN nw ad2 ad x = ad2 x := if_pos h
theorem adN_f {nw : Nat → Bool} {ad2 ad : Nat → Nat} {x : Nat} (h : nw x = false) : adN nw ad2 ad x = ad x := if_neg (by rw [h]; decide)
end ZXL
