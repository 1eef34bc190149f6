section ZZQ
def f_X10_init (t0 : Nat) (a0 : Nat) (h : zz_H) (n : Nat) : Option (Unit × zz_H × Nat) := zz_p (zz_u h n (.inl (0, (4, .inl (fun _ => 0))))) (some a0) 11 0 (.ref n) fun h8 => zz_p (zz_u h8 (n + 1) (.inl (0, (4, .inl (fun _ => 0))))) (some a0) 11 1 (.ref (n + 1)) fun h15 => zz_p (zz_u h15 ((n + 1) + 1) (.inl (0, (4, .inl (fun _ => 0))))) (some a0) 11 2 (.ref ((n + 1) + 1)) fun h22 => zz_p (zz_M2 h22 (((n + 1) + 1) + 1) 8 4 1 (9, .inl (fun _ => 0))) (some a0) 11 3 (.ref (((n + 1) + 1) + 1)) fun h33 => zz_p (zz_M2 h33 ((((n + 1) + 1) + 1) + 1 + 4) 9 4 2 (9, .inl (fun _ => 0))) (some a0) 11 4 (.ref ((((n + 1) + 1) + 1) + 1 + 4)) fun h44 => zz_p (zz_u h44 (((((n + 1) + 1) + 1) + 1 + 4) + 1 + 4) (.inl (0, (4, .inl (fun _ => 0))))) (some a0) 11 5 (.ref (((((n + 1) + 1) + 1) + 1 + 4) + 1 + 4)) fun h51 => zz_p (zz_M3 h51 ((((((n + 1) + 1) + 1) + 1 + 4) + 1 + 4) + 1) 4 6 (6, .inl (fun _ => 0))) (some a0) 11 6 (.ref ((((((n + 1) + 1) + 1) + 1 + 4) + 1 + 4) + 1)) fun h64 => zz_p (zz_M3 h64 (((((((n + 1) + 1) + 1) + 1 + 4) + 1 + 4) + 1) + 1 + 28) 4 6 (6, .inl (fun _ => 0))) (some a0) 11 7 (.ref (((((((n + 1) + 1) + 1) + 1 + 4) + 1 + 4) + 1) + 1 + 28)) fun h77 => zz_p (zz_M2 h77 ((((((((n + 1) + 1) + 1) + 1 + 4) + 1 + 4) + 1) + 1 + 28) + 1 + 28) 6 4 0 (6, .inl (fun _ => 0))) (some a0) 11 8 (.ref ((((((((n + 1) + 1) + 1) + 1 + 4) + 1 + 4) + 1) + 1 + 28) + 1 + 28)) fun h88 => zz_p (zz_M2 h88 (((((((((n + 1) + 1) + 1) + 1 + 4) + 1 + 4) + 1) + 1 + 28) + 1 + 28) + 1 + 4) 6 4 0 (6, .inl (fun _ => 0))) (some a0) 11 9 (.ref (((((((((n + 1) + 1) + 1) + 1 + 4) + 1 + 4) + 1) + 1 + 28) + 1 + 28) + 1 + 4)) fun h99 => zz_p (zz_u h99 ((((((((((n + 1) + 1) + 1) + 1 + 4) + 1 + 4) + 1) + 1 + 28) + 1 + 28) + 1 + 4) + 1 + 4) (.inl (0, (4, .inl (fun _ => 0))))) (some a0) 11 10 (.ref ((((((((((n + 1) + 1) + 1) + 1 + 4) + 1 + 4) + 1) + 1 + 28) + 1 + 28) + 1 + 4) + 1 + 4)) fun h106 => zz_p (zz_M2 h106 (((((((((((n + 1) + 1) + 1) + 1 + 4) + 1 + 4) + 1) + 1 + 28) + 1 + 28) + 1 + 4) + 1 + 4) + 1) 8 4 1 (4, .inl (fun _ => 0))) (some a0) 11 11 (.ref (((((((((((n + 1) + 1) + 1) + 1 + 4) + 1 + 4) + 1) + 1 + 28) + 1 + 28) + 1 + 4) + 1 + 4) + 1)) fun h116 => zz_p (zz_M2 h116 ((((((((((((n + 1) + 1) + 1) + 1 + 4) + 1 + 4) + 1) + 1 + 28) + 1 + 28) + 1 + 4) + 1 + 4) + 1) + 1 + 4) 6 4 0 (4, .inl (fun _ => 0))) (some a0) 11 12 (.ref ((((((((((((n + 1) + 1) + 1) + 1 + 4) + 1 + 4) + 1) + 1 + 28) + 1 + 28) + 1 + 4) + 1 + 4) + 1) + 1 + 4)) fun h126 => zz_p (zz_M2 h126 (((((((((((((n + 1) + 1) + 1) + 1 + 4) + 1 + 4) + 1) + 1 + 28) + 1 + 28) + 1 + 4) + 1 + 4) + 1) + 1 + 4) + 1 + 4) 6 4 0 (4, .inl (fun _ => 0))) (some a0) 11 13 (.ref (((((((((((((n + 1) + 1) + 1) + 1 + 4) + 1 + 4) + 1) + 1 + 28) + 1 + 28) + 1 + 4) + 1 + 4) + 1) + 1 + 4) + 1 + 4)) fun h136 => zz_p (zz_M2 h136 ((((((((((((((n + 1) + 1) + 1) + 1 + 4) + 1 + 4) + 1) + 1 + 28) + 1 + 28) + 1 + 4) + 1 + 4) + 1) + 1 + 4) + 1 + 4) + 1 + 4) 10 4 3 (4, .inr (.inl (fun _ => 0)))) (some a0) 11 14 (.ref ((((((((((((((n + 1) + 1) + 1) + 1 + 4) + 1 + 4) + 1) + 1 + 28) + 1 + 28) + 1 + 4) + 1 + 4) + 1) + 1 + 4) + 1 + 4) + 1 + 4)) fun h146 => zz_p (zz_M2 h146 (((((((((((((((n + 1) + 1) + 1) + 1 + 4) + 1 + 4) + 1) + 1 + 28) + 1 + 28) + 1 + 4) + 1 + 4) + 1) + 1 + 4) + 1 + 4) + 1 + 4) + 1 + 4) 6 4 0 (4, .inl (fun _ => 0))) (some a0) 11 15 (.ref (((((((((((((((n + 1) + 1) + 1) + 1 + 4) + 1 + 4) + 1) + 1 + 28) + 1 + 28) + 1 + 4) + 1 + 4) + 1) + 1 + 4) + 1 + 4) + 1 + 4) + 1 + 4)) fun h156 => zz_p (zz_M3 h156 ((((((((((((((((n + 1) + 1) + 1) + 1 + 4) + 1 + 4) + 1) + 1 + 28) + 1 + 28) + 1 + 4) + 1 + 4) + 1) + 1 + 4) + 1 + 4) + 1 + 4) + 1 + 4) + 1 + 4) 4 6 (6, .inl (fun _ => 0))) (some a0) 11 16 (.ref ((((((((((((((((n + 1) + 1) + 1) + 1 + 4) + 1 + 4) + 1) + 1 + 28) + 1 + 28) + 1 + 4) + 1 + 4) + 1) + 1 + 4) + 1 + 4) + 1 + 4) + 1 + 4) + 1 + 4)) fun h169 => zz_p (zz_M2 h169 (((((((((((((((((n + 1) + 1) + 1) + 1 + 4) + 1 + 4) + 1) + 1 + 28) + 1 + 28) + 1 + 4) + 1 + 4) + 1) + 1 + 4) + 1 + 4) + 1 + 4) + 1 + 4) + 1 + 4) + 1 + 28) 6 4 0 (6, .inl (fun _ => 0))) (some a0) 11 17 (.ref (((((((((((((((((n + 1) + 1) + 1) + 1 + 4) + 1 + 4) + 1) + 1 + 28) + 1 + 28) + 1 + 4) + 1 + 4) + 1) + 1 + 4) + 1 + 4) + 1 + 4) + 1 + 4) + 1 + 4) + 1 + 28)) fun h180 => zz_p (zz_u h180 ((((((((((((((((((n + 1) + 1) + 1) + 1 + 4) + 1 + 4) + 1) + 1 + 28) + 1 + 28) + 1 + 4) + 1 + 4) + 1) + 1 + 4) + 1 + 4) + 1 + 4) + 1 + 4) + 1 + 4) + 1 + 28) + 1 + 4) (.inl (0, (4, .inl (fun _ => 0))))) (some a0) 11 18 (.ref ((((((((((((((((((n + 1) + 1) + 1) + 1 + 4) + 1 + 4) + 1) + 1 + 28) + 1 + 28) + 1 + 4) + 1 + 4) + 1) + 1 + 4) + 1 + 4) + 1 + 4) + 1 + 4) + 1 + 4) + 1 + 28) + 1 + 4)) fun h187 => zz_p (zz_u h187 (((((((((((((((((((n + 1) + 1) + 1) + 1 + 4) + 1 + 4) + 1) + 1 + 28) + 1 + 28) + 1 + 4) + 1 + 4) + 1) + 1 + 4) + 1 + 4) + 1 + 4) + 1 + 4) + 1 + 4) + 1 + 28) + 1 + 4) + 1) (.inl (0, (4, .inl (fun _ => 0))))) (some a0) 11 19 (.ref (((((((((((((((((((n + 1) + 1) + 1) + 1 + 4) + 1 + 4) + 1) + 1 + 28) + 1 + 28) + 1 + 4) + 1 + 4) + 1) + 1 + 4) + 1 + 4) + 1 + 4) + 1 + 4) + 1 + 4) + 1 + 28) + 1 + 4) + 1)) fun h194 => zz_p (zz_u h194 ((((((((((((((((((((n + 1) + 1) + 1) + 1 + 4) + 1 + 4) + 1) + 1 + 28) + 1 + 28) + 1 + 4) + 1 + 4) + 1) + 1 + 4) + 1 + 4) + 1 + 4) + 1 + 4) + 1 + 4) + 1 + 28) + 1 + 4) + 1) + 1) (.inl (0, (4, .inl (fun _ => 0))))) (some a0) 11 20 (.ref ((((((((((((((((((((n + 1) + 1) + 1) + 1 + 4) + 1 + 4) + 1) + 1 + 28) + 1 + 28) + 1 + 4) + 1 + 4) + 1) + 1 + 4) + 1 + 4) + 1 + 4) + 1 + 4) + 1 + 4) + 1 + 28) + 1 + 4) + 1) + 1)) fun h201 => zz_p (zz_u h201 (((((((((((((((((((((n + 1) + 1) + 1) + 1 + 4) + 1 + 4) + 1) + 1 + 28) + 1 + 28) + 1 + 4) + 1 + 4) + 1) + 1 + 4) + 1 + 4) + 1 + 4) + 1 + 4) + 1 + 4) + 1 + 28) + 1 + 4) + 1) + 1) + 1) (.inl (0, (4, .inl (fun _ => 0))))) (some a0) 11 21 (.ref (((((((((((((((((((((n + 1) + 1) + 1) + 1 + 4) + 1 + 4) + 1) + 1 + 28) + 1 + 28) + 1 + 4) + 1 + 4) + 1) + 1 + 4) + 1 + 4) + 1 + 4) + 1 + 4) + 1 + 4) + 1 + 28) + 1 + 4) + 1) + 1) + 1)) fun h208 => zz_p (zz_M3 h208 ((((((((((((((((((((((n + 1) + 1) + 1) + 1 + 4) + 1 + 4) + 1) + 1 + 28) + 1 + 28) + 1 + 4) + 1 + 4) + 1) + 1 + 4) + 1 + 4) + 1 + 4) + 1 + 4) + 1 + 4) + 1 + 28) + 1 + 4) + 1) + 1) + 1) + 1) 3 6 (6, .inl (fun _ => 0))) (some a0) 11 22 (.ref ((((((((((((((((((((((n + 1) + 1) + 1) + 1 + 4) + 1 + 4) + 1) + 1 + 28) + 1 + 28) + 1 + 4) + 1 + 4) + 1) + 1 + 4) + 1 + 4) + 1 + 4) + 1 + 4) + 1 + 4) + 1 + 28) + 1 + 4) + 1) + 1) + 1) + 1)) fun h221 => zz_p (zz_u h221 (((((((((((((((((((((((n + 1) + 1) + 1) + 1 + 4) + 1 + 4) + 1) + 1 + 28) + 1 + 28) + 1 + 4) + 1 + 4) + 1) + 1 + 4) + 1 + 4) + 1 + 4) + 1 + 4) + 1 + 4) + 1 + 28) + 1 + 4) + 1) + 1) + 1) + 1) + 1 + 21) (.inl (0, (4, .inl (fun _ => 0))))) (some a0) 11 23 (.ref (((((((((((((((((((((((n + 1) + 1) + 1) + 1 + 4) + 1 + 4) + 1) + 1 + 28) + 1 + 28) + 1 + 4) + 1 + 4) + 1) + 1 + 4) + 1 + 4) + 1 + 4) + 1 + 4) + 1 + 4) + 1 + 28) + 1 + 4) + 1) + 1) + 1) + 1) + 1 + 21)) fun h228 => zz_p (zz_u h228 ((((((((((((((((((((((((n + 1) + 1) + 1) + 1 + 4) + 1 + 4) + 1) + 1 + 28) + 1 + 28) + 1 + 4) + 1 + 4) + 1) + 1 + 4) + 1 + 4) + 1 + 4) + 1 + 4) + 1 + 4) + 1 + 28) + 1 + 4) + 1) + 1) + 1) + 1) + 1 + 21) + 1) (.inl (0, (4, .inl (fun _ => 0))))) (some a0) 11 24 (.ref ((((((((((((((((((((((((n + 1) + 1) + 1) + 1 + 4) + 1 + 4) + 1) + 1 + 28) + 1 + 28) + 1 + 4) + 1 + 4) + 1) + 1 + 4) + 1 + 4) + 1 + 4) + 1 + 4) + 1 + 4) + 1 + 28) + 1 + 4) + 1) + 1) + 1) + 1) + 1 + 21) + 1)) fun h235 => zz_p (zz_u h235 (((((((((((((((((((((((((n + 1) + 1) + 1) + 1 + 4) + 1 + 4) + 1) + 1 + 28) + 1 + 28) + 1 + 4) + 1 + 4) + 1) + 1 + 4) + 1 + 4) + 1 + 4) + 1 + 4) + 1 + 4) + 1 + 28) + 1 + 4) + 1) + 1) + 1) + 1) + 1 + 21) + 1) + 1) (.inl (0, (4, .inl (fun _ => 0))))) (some a0) 11 25 (.ref (((((((((((((((((((((((((n + 1) + 1) + 1) + 1 + 4) + 1 + 4) + 1) + 1 + 28) + 1 + 28) + 1 + 4) + 1 + 4) + 1) + 1 + 4) + 1 + 4) + 1 + 4) + 1 + 4) + 1 + 4) + 1 + 28) + 1 + 4) + 1) + 1) + 1) + 1) + 1 + 21) + 1) + 1)) fun h242 => zz_p (zz_u h242 ((((((((((((((((((((((((((n + 1) + 1) + 1) + 1 + 4) + 1 + 4) + 1) + 1 + 28) + 1 + 28) + 1 + 4) + 1 + 4) + 1) + 1 + 4) + 1 + 4) + 1 + 4) + 1 + 4) + 1 + 4) + 1 + 28) + 1 + 4) + 1) + 1) + 1) + 1) + 1 + 21) + 1) + 1) + 1) (.inl (0, (4, .inl (fun _ => 0))))) (some a0) 11 26 (.ref ((((((((((((((((((((((((((n + 1) + 1) + 1) + 1 + 4) + 1 + 4) + 1) + 1 + 28) + 1 + 28) + 1 + 4) + 1 + 4) + 1) + 1 + 4) + 1 + 4) + 1 + 4) + 1 + 4) + 1 + 4) + 1 + 28) + 1 + 4) + 1) + 1) + 1) + 1) + 1 + 21) + 1) + 1) + 1)) fun h249 => zz_p (zz_M2 h249 (((((((((((((((((((((((((((n + 1) + 1) + 1) + 1 + 4) + 1 + 4) + 1) + 1 + 28) + 1 + 28) + 1 + 4) + 1 + 4) + 1) + 1 + 4) + 1 + 4) + 1 + 4) + 1 + 4) + 1 + 4) + 1 + 28) + 1 + 4) + 1) + 1) + 1) + 1) + 1 + 21) + 1) + 1) + 1) + 1) 6 4 0 (10, .inl (fun _ => 0))) (some a0) 11 27 (.ref (((((((((((((((((((((((((((n + 1) + 1) + 1) + 1 + 4) + 1 + 4) + 1) + 1 + 28) + 1 + 28) + 1 + 4) + 1 + 4) + 1) + 1 + 4) + 1 + 4) + 1 + 4) + 1 + 4) + 1 + 4) + 1 + 28) + 1 + 4) + 1) + 1) + 1) + 1) + 1 + 21) + 1) + 1) + 1) + 1)) fun h260 => zz_si 1 (zz_u h260 ((((((((((((((((((((((((((((n + 1) + 1) + 1) + 1 + 4) + 1 + 4) + 1) + 1 + 28) + 1 + 28) + 1 + 4) + 1 + 4) + 1) + 1 + 4) + 1 + 4) + 1 + 4) + 1 + 4) + 1 + 4) + 1 + 28) + 1 + 4) + 1) + 1) + 1) + 1) + 1 + 21) + 1) + 1) + 1) + 1) + 1 + 4) (.inl (1, (4, .inl (fun _ => 0))))) (some ((((((((((((((((((((((((((((n + 1) + 1) + 1) + 1 + 4) + 1 + 4) + 1) + 1 + 28) + 1 + 28) + 1 + 4) + 1 + 4) + 1) + 1 + 4) + 1 + 4) + 1 + 4) + 1 + 4) + 1 + 4) + 1 + 28) + 1 + 4) + 1) + 1) + 1) + 1) + 1 + 21) + 1) + 1) + 1) + 1) + 1 + 4)) (0 : Int32) (vp_nar .char (45 : Int32)) fun h271 => zz_si 1 h271 (some ((((((((((((((((((((((((((((n + 1) + 1) + 1) + 1 + 4) + 1 + 4) + 1) + 1 + 28) + 1 + 28) + 1 + 4) + 1 + 4) + 1) + 1 + 4) + 1 + 4) + 1 + 4) + 1 + 4) + 1 + 4) + 1 + 28) + 1 + 4) + 1) + 1) + 1) + 1) + 1 + 21) + 1) + 1) + 1) + 1) + 1 + 4)) (1 : Int32) (vp_nar .char (45 : Int32)) fun h276 => zz_si 1 h276 (some ((((((((((((((((((((((((((((n + 1) + 1) + 1) + 1 + 4) + 1 + 4) + 1) + 1 + 28) + 1 + 28) + 1 + 4) + 1 + 4) + 1) + 1 + 4) + 1 + 4) + 1 + 4) + 1 + 4) + 1 + 4) + 1 + 28) + 1 + 4) + 1) + 1) + 1) + 1) + 1 + 21) + 1) + 1) + 1) + 1) + 1 + 4)) (2 : Int32) (vp_nar .char (45 : Int32)) fun h281 => zz_si 1 h281 (some ((((((((((((((((((((((((((((n + 1) + 1) + 1) + 1 + 4) + 1 + 4) + 1) + 1 + 28) + 1 + 28) + 1 + 4) + 1 + 4) + 1) + 1 + 4) + 1 + 4) + 1 + 4) + 1 + 4) + 1 + 4) + 1 + 28) + 1 + 4) + 1) + 1) + 1) + 1) + 1 + 21) + 1) + 1) + 1) + 1) + 1 + 4)) (3 : Int32) (vp_nar .char (45 : Int32)) fun h286 => zz_p h286 (some a0) 11 28 (.ref ((((((((((((((((((((((((((((n + 1) + 1) + 1) + 1 + 4) + 1 + 4) + 1) + 1 + 28) + 1 + 28) + 1 + 4) + 1 + 4) + 1) + 1 + 4) + 1 + 4) + 1 + 4) + 1 + 4) + 1 + 4) + 1 + 28) + 1 + 4) + 1) + 1) + 1) + 1) + 1 + 21) + 1) + 1) + 1) + 1) + 1 + 4)) fun h287 => zz_si 0 (zz_u h287 (((((((((((((((((((((((((((((n + 1) + 1) + 1) + 1 + 4) + 1 + 4) + 1) + 1 + 28) + 1 + 28) + 1 + 4) + 1 + 4) + 1) + 1 + 4) + 1 + 4) + 1 + 4) + 1 + 4) + 1 + 4) + 1 + 28) + 1 + 4) + 1) + 1) + 1) + 1) + 1 + 21) + 1) + 1) + 1) + 1) + 1 + 4) + 1) (.inl (0, (4, .inl (fun _ => 0))))) (some (((((((((((((((((((((((((((((n + 1) + 1) + 1) + 1 + 4) + 1 + 4) + 1) + 1 + 28) + 1 + 28) + 1 + 4) + 1 + 4) + 1) + 1 + 4) + 1 + 4) + 1 + 4) + 1 + 4) + 1 + 4) + 1 + 28) + 1 + 4) + 1) + 1) + 1) + 1) + 1 + 21) + 1) + 1) + 1) + 1) + 1 + 4) + 1)) (0 : Int32) (4 : Int32) fun h297 => zz_si 0 h297 (some (((((((((((((((((((((((((((((n + 1) + 1) + 1) + 1 + 4) + 1 + 4) + 1) + 1 + 28) + 1 + 28) + 1 + 4) + 1 + 4) + 1) + 1 + 4) + 1 + 4) + 1 + 4) + 1 + 4) + 1 + 4) + 1 + 28) + 1 + 4) + 1) + 1) + 1) + 1) + 1 + 21) + 1) + 1) + 1) + 1) + 1 + 4) + 1)) (1 : Int32) (4 : Int32) fun h301 => zz_si 0 h301 (some (((((((((((((((((((((((((((((n + 1) + 1) + 1) + 1 + 4) + 1 + 4) + 1) + 1 + 28) + 1 + 28) + 1 + 4) + 1 + 4) + 1) + 1 + 4) + 1 + 4) + 1 + 4) + 1 + 4) + 1 + 4) + 1 + 28) + 1 + 4) + 1) + 1) + 1) + 1) + 1 + 21) + 1) + 1) + 1) + 1) + 1 + 4) + 1)) (2 : Int32) (4 : Int32) fun h305 => zz_si 0 h305 (some (((((((((((((((((((((((((((((n + 1) + 1) + 1) + 1 + 4) + 1 + 4) + 1) + 1 + 28) + 1 + 28) + 1 + 4) + 1 + 4) + 1) + 1 + 4) + 1 + 4) + 1 + 4) + 1 + 4) + 1 + 4) + 1 + 28) + 1 + 4) + 1) + 1) + 1) + 1) + 1 + 21) + 1) + 1) + 1) + 1) + 1 + 4) + 1)) (3 : Int32) (4 : Int32) fun h309 => zz_p h309 (some a0) 11 29 (.ref (((((((((((((((((((((((((((((n + 1) + 1) + 1) + 1 + 4) + 1 + 4) + 1) + 1 + 28) + 1 + 28) + 1 + 4) + 1 + 4) + 1) + 1 + 4) + 1 + 4) + 1 + 4) + 1 + 4) + 1 + 4) + 1 + 28) + 1 + 4) + 1) + 1) + 1) + 1) + 1 + 21) + 1) + 1) + 1) + 1) + 1 + 4) + 1)) fun h310 => some ((), h310, ((((((((((((((((((((((((((((((n + 1) + 1) + 1) + 1 + 4) + 1 + 4) + 1) + 1 + 28) + 1 + 28) + 1 + 4) + 1 + 4) + 1) + 1 + 4) + 1 + 4) + 1 + 4) + 1 + 4) + 1 + 4) + 1 + 28) + 1 + 4) + 1) + 1) + 1) + 1) + 1 + 21) + 1) + 1) + 1) + 1) + 1 + 4) + 1) + 1))
def f_L_seat (t0 : Nat) (x0 : Nat) (x1 : Int32) (x2 : Int32) (x3 : Nat) (h : zz_H) (n : Nat) : Option (Int32 × zz_H × Nat) := zz_ob h (some x0) 10 fun _ => zz_th2 (f_X9_seat t0 x0 x1 x2 h n) (fun v5 h5 n5 => zz_sl 3 h5 (some x3) (0 : Int32) v5.toInt64 fun h9 => some ((0 : Int32), h9, n5)) (fun k5 h5 n5 => if k5 = 0 then some ((1 : Int32), h5, n5) else (if k5 = 1 then some ((2 : Int32), h5, n5) else none))
def f_L_web (t0 : Nat) (x0 : Nat) (x1 : Int32) (x2 : Int32) (x3 : Nat) (h : zz_H) (n : Nat) : Option (Int32 × zz_H × Nat) := zz_ob h (some x0) 10 fun _ => zz_th1 (f_X9_web x0 x1 x2 h) (fun v5 h5 => zz_sl 3 h5 (some x3) (0 : Int32) v5.toInt64 fun h9 => some ((0 : Int32), h9, n)) (fun k5 h5 => if k5 = 2 then some ((1 : Int32), h5, n) else (if k5 = 0 then some ((2 : Int32), h5, n) else (if k5 = 3 then some ((3 : Int32), h5, n) else none)))
def f_L_spring (t0 : Nat) (x0 : Nat) (x1 : Int32) (x2 : Int32) (x3 : Int32) (x4 : Nat) (h : zz_H) (n : Nat) : Option (Int32 × zz_H × Nat) := zz_ob h (some x0) 10 fun _ => zz_th1 (f_X9_spring x0 x1 x2 x3 h) (fun v7 h7 => zz_sl 3 h7 (some x4) (0 : Int32) v7.toInt64 fun h11 => some ((0 : Int32), h11, n)) (fun k7 h7 => if k7 = 2 then some ((1 : Int32), h7, n) else (if k7 = 0 then some ((2 : Int32), h7, n) else (if k7 = 3 then some ((3 : Int32), h7, n) else none)))
def f_L_change (t0 : Nat) (x0 : Nat) (x1 : Int32) (x2 : Int32) (x3 : Int32) (x4 : Int32) (x5 : Nat) (h : zz_H) (n : Nat) : Option (Int32 × zz_H × Nat) := zz_ob h (some x0) 10 fun _ => zz_th1 (f_X9_change x0 x1 x2 x3 x4 h) (fun v9 h9 => zz_sl 3 h9 (some x5) (0 : Int32) v9.toInt64 fun h13 => some ((0 : Int32), h13, n)) (fun k9 h9 => if k9 = 2 then some ((1 : Int32), h9, n) else (if k9 = 0 then some ((2 : Int32), h9, n) else (if k9 = 3 then some ((3 : Int32), h9, n) else none)))
def f_L_tie (t0 : Nat) (x0 : Nat) (x1 : Int32) (x2 : Nat) (h : zz_H) (n : Nat) : Option (Int32 × zz_H × Nat) := zz_ob h (some x0) 10 fun _ => zz_th1 (f_X9_tie x0 x1 h) (fun v4 h4 => zz_sl 3 h4 (some x2) (0 : Int32) v4.toInt64 fun h8 => some ((0 : Int32), h8, n)) (fun k4 h4 => if k4 = 2 then some ((1 : Int32), h4, n) else (if k4 = 3 then some ((2 : Int32), h4, n) else none))
def f_L_pull (t0 : Nat) (x0 : Nat) (x1 : Int32) (x2 : Int32) (x3 : Int32) (x4 : Int32) (x5 : Nat) (h : zz_H) (n : Nat) : Option (Int32 × zz_H × Nat) := zz_ob h (some x0) 10 fun _ => zz_th1 (f_X9_pull x0 x1 x2 x3 x4 h) (fun v9 h9 => zz_sl 3 h9 (some x5) (0 : Int32) v9.toInt64 fun h13 => some ((0 : Int32), h13, n)) (fun k9 h9 => if k9 = 2 then some ((1 : Int32), h9, n) else (if k9 = 0 then some ((2 : Int32), h9, n) else (if k9 = 3 then some ((3 : Int32), h9, n) else none)))
def f_L_layer (t0 : Nat) (x0 : Nat) (x1 : Int32) (x2 : Int32) (x3 : Int32) (x4 : Int32) (x5 : Nat) (h : zz_H) (n : Nat) : Option (Int32 × zz_H × Nat) := zz_ob h (some x0) 10 fun _ => zz_th2 (f_X9_layer t0 x0 x1 x2 x3 x4 h n) (fun v9 h9 n9 => zz_sl 3 h9 (some x5) (0 : Int32) v9.toInt64 fun h13 => some ((0 : Int32), h13, n9)) (fun k9 h9 n9 => if k9 = 2 then some ((1 : Int32), h9, n9) else (if k9 = 0 then some ((2 : Int32), h9, n9) else (if k9 = 3 then some ((3 : Int32), h9, n9) else none)))
def f_L_buttons (t0 : Nat) (x0 : Nat) (x1 : Int32) (x2 : Nat) (h : zz_H) (n : Nat) : Option (Int32 × zz_H × Nat) := zz_ob h (some x0) 10 fun _ => zz_th1 (f_X9_buttons x0 x1 h) (fun v4 h4 => zz_sl 3 h4 (some x2) (0 : Int32) v4.toInt64 fun h8 => some ((0 : Int32), h8, n)) (fun k4 h4 => if k4 = 2 then some ((1 : Int32), h4, n) else (if k4 = 3 then some ((2 : Int32), h4, n) else none))
def f_L_draw (t0 : Nat) (x0 : Nat) (x1 : Int32) (x2 : Int32) (x3 : Int32) (x4 : Nat) (h : zz_H) (n : Nat) : Option (Int32 × zz_H × Nat) := zz_ob h (some x0) 10 fun _ => zz_th1 (f_X9_draw x0 x1 x2 x3 h) (fun v7 h7 => zz_sl 3 h7 (some x4) (0 : Int32) v7.toInt64 fun h11 => some ((0 : Int32), h11, n)) (fun k7 h7 => if k7 = 2 then some ((1 : Int32), h7, n) else (if k7 = 0 then some ((2 : Int32), h7, n) else (if k7 = 3 then some ((3 : Int32), h7, n) else (if k7 = 1 then some ((4 : Int32), h7, n) else none))))
def f_L_cover (t0 : Nat) (x0 : Nat) (x1 : Int32) (x2 : Int32) (x3 : Int32) (x4 : Nat) (h : zz_H) (n : Nat) : Option (Int32 × zz_H × Nat) := zz_ob h (some x0) 10 fun _ => zz_th1 (f_X9_cover x0 x1 x2 x3 h) (fun v7 h7 => zz_sl 3 h7 (some x4) (0 : Int32) v7.toInt64 fun h11 => some ((0 : Int32), h11, n)) (fun k7 h7 => if k7 = 2 then some ((1 : Int32), h7, n) else (if k7 = 0 then some ((2 : Int32), h7, n) else (if k7 = 3 then some ((3 : Int32), h7, n) else (if k7 = 4 then some ((4 : Int32), h7, n) else none))))
def f_L_sign (t0 : Nat) (x0 : Nat) (x1 : Int32) (x2 : Nat) (h : zz_H) (n : Nat) : Option (Int32 × zz_H × Nat) := zz_ob h (some x0) 10 fun _ => zz_th1 (f_X9_sign x0 x1 h) (fun v4 h4 => zz_sl 3 h4 (some x2) (0 : Int32) v4.toInt64 fun h8 => some ((0 : Int32), h8, n)) (fun k4 h4 => if k4 = 2 then some ((1 : Int32), h4, n) else (if k4 = 3 then some ((2 : Int32), h4, n) else none))
def f_L_open (t0 : Nat) (x0 : Nat) (x1 : Int32) (x2 : Int32) (x3 : Nat) (h : zz_H) (n : Nat) : Option (Int32 × zz_H × Nat) := zz_ob h (some x0) 10 fun _ => zz_th1 (f_X9_open x0 x1 x2 h) (fun v5 h5 => zz_sl 3 h5 (some x3) (0 : Int32) v5.toInt64 fun h9 => some ((0 : Int32), h9, n)) (fun k5 h5 => if k5 = 2 then some ((1 : Int32), h5, n) else (if k5 = 0 then some ((2 : Int32), h5, n) else none))
def f_L_steps (t0 : Nat) (x0 : Nat) (x1 : Int32) (x2 : Nat) (h : zz_H) (n : Nat) : Option (Int32 × zz_H × Nat) := zz_ob h (some x0) 10 fun _ => zz_th (f_X9_steps x0 x1 h) (fun v4 => zz_sl 3 h (some x2) (0 : Int32) v4.toInt64 fun h8 => some ((0 : Int32), h8, n)) (fun k4 => if k4 = 2 then some ((1 : Int32), h, n) else none)
def f_L_step (t0 : Nat) (x0 : Nat) (x1 : Int32) (x2 : Int32) (x3 : Nat) (h : zz_H) (n : Nat) : Option (Int32 × zz_H × Nat) := zz_ob h (some x0) 10 fun _ => zz_th (f_X9_step x0 x1 x2 h) (fun v5 => zz_sl 3 h (some x3) (0 : Int32) v5.toInt64 fun h9 => some ((0 : Int32), h9, n)) (fun k5 => if k5 = 2 then some ((1 : Int32), h, n) else (if k5 = 4 then some ((2 : Int32), h, n) else none))
def f_L_isSigned_16 (t0 : Nat) (s0 : Int64) (s1 : Int32) (s2 : (Option Nat)) (h : zz_H) (n : Nat) : Option (Int32 × zz_H × Nat) := zz_sl 3 h s2 s1 s0 fun h16 => some ((0 : Int32), h16, n)
def f_L_isSigned (t0 : Nat) (x0 : Nat) (x1 : Int32) (x2 : Int32) (x3 : Nat) (h : zz_H) (n : Nat) : Option (Int32 × zz_H × Nat) := zz_ob h (some x0) 10 fun _ => zz_th (f_X9_isSigned x0 x1 x2 h) (fun v5 => if v5 = (0 : Int32) then (f_L_isSigned_16 t0 (0 : Int64) (0 : Int32) (some x3) h n) else (f_L_isSigned_16 t0 (1 : Int64) (0 : Int32) (some x3) h n)) (fun k5 => if k5 = 2 then some ((1 : Int32), h, n) else (if k5 = 4 then some ((2 : Int32), h, n) else none))
def f_L_isClosed_15 (t0 : Nat) (s0 : Int64) (s1 : Int32) (s2 : (Option Nat)) (h : zz_H) (n : Nat) : Option (Int32 × zz_H × Nat) := zz_sl 3 h s2 s1 s0 fun h15 => some ((0 : Int32), h15, n)
def f_L_isClosed (t0 : Nat) (x0 : Nat) (x1 : Int32) (x2 : Nat) (h : zz_H) (n : Nat) : Option (Int32 × zz_H × Nat) := zz_ob h (some x0) 10 fun _ => zz_th (f_X9_isClosed x0 x1 h) (fun v4 => if v4 = (0 : Int32) then (f_L_isClosed_15 t0 (0 : Int64) (0 : Int32) (some x2) h n) else (f_L_isClosed_15 t0 (1 : Int64) (0 : Int32) (some x2) h n)) (fun k4 => if k4 = 2 then some ((1 : Int32), h, n) else none)
def f_L_stands (t0 : Nat) (x0 : Nat) (x1 : Int32) (x2 : Int32) (x3 : Nat) (h : zz_H) (n : Nat) : Option (Int32 × zz_H × Nat) := zz_ob h (some x0) 10 fun _ => zz_th (f_X9_stands x0 x1 x2 h) (fun v5 => zz_sl 3 h (some x3) (0 : Int32) v5.toInt64 fun h9 => some ((0 : Int32), h9, n)) (fun k5 => if k5 = 2 then some ((1 : Int32), h, n) else none)
def f_L_thick (t0 : Nat) (x0 : Nat) (x1 : Int32) (x2 : Int32) (x3 : Nat) (h : zz_H) (n : Nat) : Option (Int32 × zz_H × Nat) := zz_ob h (some x0) 10 fun _ => zz_th (f_X9_thick x0 x1 x2 h) (fun v5 => zz_sl 3 h (some x3) (0 : Int32) v5.toInt64 fun h9 => some ((0 : Int32), h9, n)) (fun k5 => if k5 = 2 then some ((1 : Int32), h, n) else (if k5 = 4 then some ((2 : Int32), h, n) else none))
def f_L_top (t0 : Nat) (x0 : Nat) (x1 : Int32) (x2 : Int32) (x3 : Nat) (h : zz_H) (n : Nat) : Option (Int32 × zz_H × Nat) := zz_ob h (some x0) 10 fun _ => zz_th (f_X9_top x0 x1 x2 h) (fun v5 => zz_sl 3 h (some x3) (0 : Int32) v5.toInt64 fun h9 => some ((0 : Int32), h9, n)) (fun k5 => if k5 = 2 then some ((1 : Int32), h, n) else none)
def f_L_folds (t0 : Nat) (x0 : Nat) (x1 : Int32) (x2 : Int32) (x3 : Nat) (h : zz_H) (n : Nat) : Option (Int32 × zz_H × Nat) := zz_ob h (some x0) 10 fun _ => zz_th (f_X9_folds x0 x1 x2 h) (fun v5 => zz_sl 3 h (some x3) (0 : Int32) v5.toInt64 fun h9 => some ((0 : Int32), h9, n)) (fun k5 => if k5 = 2 then some ((1 : Int32), h, n) else none)
def f_L_buttonAt (t0 : Nat) (x0 : Nat) (x1 : Int32) (x2 : Int32) (x3 : Nat) (h : zz_H) (n : Nat) : Option (Int32 × zz_H × Nat) := zz_ob h (some x0) 10 fun _ => zz_th (f_X9_buttonAt x0 x1 x2 h) (fun v5 => zz_sl 3 h (some x3) (0 : Int32) v5.toInt64 fun h9 => some ((0 : Int32), h9, n)) (fun k5 => if k5 = 2 then some ((1 : Int32), h, n) else (if k5 = 4 then some ((2 : Int32), h, n) else none))
def f_L_body (t0 : Nat) (x0 : Nat) (x1 : Nat) (h : zz_H) (n : Nat) : Option (Int32 × zz_H × Nat) := zz_ob h (some x0) 10 fun _ => zz_th2 (f_X9_body t0 x0 h n) (fun v3 h3 n3 => zz_sl 3 h3 (some x1) (0 : Int32) v3.toInt64 fun h7 => some ((0 : Int32), h7, n3)) (fun k3 h3 n3 => if k3 = 1 then some ((1 : Int32), h3, n3) else none)
def f_L_mass (t0 : Nat) (x0 : Nat) (x1 : Int32) (x2 : Int32) (x3 : Int32) (x4 : Nat) (h : zz_H) (n : Nat) : Option (Int32 × zz_H × Nat) := zz_ob h (some x0) 10 fun _ => zz_th1 (f_X9_mass x0 x1 x2 x3 h) (fun v7 h7 => zz_sl 3 h7 (some x4) (0 : Int32) v7.toInt64 fun h11 => some ((0 : Int32), h11, n)) (fun k7 h7 => if k7 = 2 then some ((1 : Int32), h7, n) else (if k7 = 0 then some ((2 : Int32), h7, n) else none))
def f_L_sinks (t0 : Nat) (x0 : Nat) (x1 : Int32) (x2 : Int32) (x3 : Int32) (x4 : Nat) (h : zz_H) (n : Nat) : Option (Int32 × zz_H × Nat) := zz_ob h (some x0) 10 fun _ => zz_th1 (f_X9_sinks x0 x1 x2 x3 h) (fun v7 h7 => zz_sl 3 h7 (some x4) (0 : Int32) v7.toInt64 fun h11 => some ((0 : Int32), h11, n)) (fun k7 h7 => if k7 = 2 then some ((1 : Int32), h7, n) else (if k7 = 3 then some ((2 : Int32), h7, n) else none))
def f_L_pressure (t0 : Nat) (x0 : Nat) (x1 : Int32) (x2 : Int32) (x3 : Int32) (x4 : Nat) (h : zz_H) (n : Nat) : Option (Int32 × zz_H × Nat) := zz_ob h (some x0) 10 fun _ => zz_th1 (f_X9_pressure x0 x1 x2 x3 h) (fun v7 h7 => zz_sl 3 h7 (some x4) (0 : Int32) v7.toInt64 fun h11 => some ((0 : Int32), h11, n)) (fun k7 h7 => if k7 = 2 then some ((1 : Int32), h7, n) else (if k7 = 3 then some ((2 : Int32), h7, n) else none))
def f_L_comfort (t0 : Nat) (x0 : Nat) (x1 : Int32) (x2 : Int32) (x3 : Nat) (h : zz_H) (n : Nat) : Option (Int32 × zz_H × Nat) := zz_ob h (some x0) 10 fun _ => zz_th1 (f_X9_comfort x0 x1 x2 h) (fun v5 h5 => zz_sl 3 h5 (some x3) (0 : Int32) v5.toInt64 fun h9 => some ((0 : Int32), h9, n)) (fun k5 h5 => if k5 = 2 then some ((1 : Int32), h5, n) else (if k5 = 3 then some ((2 : Int32), h5, n) else none))
def f_L_fit (t0 : Nat) (x0 : Nat) (x1 : Int32) (x2 : Int32) (x3 : Int32) (x4 : Nat) (h : zz_H) (n : Nat) : Option (Int32 × zz_H × Nat) := zz_ob h (some x0) 10 fun _ => zz_th1 (f_X9_fit x0 x1 x2 x3 h) (fun v7 h7 => zz_sl 3 h7 (some x4) (0 : Int32) v7.toInt64 fun h11 => some ((0 : Int32), h11, n)) (fun k7 h7 => if k7 = 2 then some ((1 : Int32), h7, n) else (if k7 = 3 then some ((2 : Int32), h7, n) else none))
def f_L_cloth (t0 : Nat) (x0 : Nat) (x1 : Int32) (x2 : Int32) (x3 : Nat) (h : zz_H) (n : Nat) : Option (Int32 × zz_H × Nat) := zz_ob h (some x0) 10 fun _ => zz_th2 (f_X9_cloth t0 x0 x1 x2 h n) (fun v5 h5 n5 => zz_sl 3 h5 (some x3) (0 : Int32) v5.toInt64 fun h9 => some ((0 : Int32), h9, n5)) (fun k5 h5 n5 => if k5 = 0 then some ((1 : Int32), h5, n5) else (if k5 = 1 then some ((2 : Int32), h5, n5) else none))
def f_L_flaw (t0 : Nat) (x0 : Nat) (x1 : Int32) (x2 : Int32) (x3 : Nat) (h : zz_H) (n : Nat) : Option (Int32 × zz_H × Nat) := zz_ob h (some x0) 10 fun _ => zz_th1 (f_X9_flaw x0 x1 x2 h) (fun v5 h5 => zz_sl 3 h5 (some x3) (0 : Int32) v5.toInt64 fun h9 => some ((0 : Int32), h9, n)) (fun k5 h5 => if k5 = 2 then some ((1 : Int32), h5, n) else (if k5 = 3 then some ((2 : Int32), h5, n) else (if k5 = 1 then some ((3 : Int32), h5, n) else none)))
def f_L_left (t0 : Nat) (x0 : Nat) (x1 : Int32) (x2 : Nat) (h : zz_H) (n : Nat) : Option (Int32 × zz_H × Nat) := zz_ob h (some x0) 10 fun _ => zz_th (f_X9_left x0 x1 h) (fun v4 => zz_sl 3 h (some x2) (0 : Int32) v4.toInt64 fun h8 => some ((0 : Int32), h8, n)) (fun k4 => if k4 = 2 then some ((1 : Int32), h, n) else none)
def f_L_panel (t0 : Nat) (x0 : Nat) (x1 : Int32) (x2 : Int32) (x3 : Nat) (h : zz_H) (n : Nat) : Option (Int32 × zz_H × Nat) := zz_ob h (some x0) 10 fun _ => zz_th (f_X9_panel x0 x1 x2 h) (fun v5 => zz_sl 3 h (some x3) (0 : Int32) v5.toInt64 fun h9 => some ((0 : Int32), h9, n)) (fun k5 => if k5 = 2 then some ((1 : Int32), h, n) else (if k5 = 4 then some ((2 : Int32), h, n) else none))
def f_L_use (t0 : Nat) (x0 : Nat) (x1 : Int32) (x2 : Int32) (x3 : Nat) (h : zz_H) (n : Nat) : Option (Int32 × zz_H × Nat) := zz_ob h (some x0) 10 fun _ => zz_th1 (f_X9_use x0 x1 x2 h) (fun v5 h5 => zz_sl 3 h5 (some x3) (0 : Int32) v5.toInt64 fun h9 => some ((0 : Int32), h9, n)) (fun k5 h5 => if k5 = 2 then some ((1 : Int32), h5, n) else (if k5 = 0 then some ((2 : Int32), h5, n) else (if k5 = 3 then some ((3 : Int32), h5, n) else none)))
def f_L_pound (t0 : Nat) (x0 : Nat) (x1 : Int32) (x2 : Int32) (x3 : Nat) (h : zz_H) (n : Nat) : Option (Int32 × zz_H × Nat) := zz_ob h (some x0) 10 fun _ => zz_th1 (f_X9_pound x0 x1 x2 h) (fun v5 h5 => zz_sl 3 h5 (some x3) (0 : Int32) v5.toInt64 fun h9 => some ((0 : Int32), h9, n)) (fun k5 h5 => if k5 = 2 then some ((1 : Int32), h5, n) else (if k5 = 0 then some ((2 : Int32), h5, n) else (if k5 = 3 then some ((3 : Int32), h5, n) else none)))
def f_L_hours (t0 : Nat) (x0 : Nat) (x1 : Int32) (x2 : Nat) (h : zz_H) (n : Nat) : Option (Int32 × zz_H × Nat) := zz_ob h (some x0) 10 fun _ => zz_th (f_X9_hours x0 x1 h) (fun v4 => zz_sl 3 h (some x2) (0 : Int32) v4.toInt64 fun h8 => some ((0 : Int32), h8, n)) (fun k4 => if k4 = 2 then some ((1 : Int32), h, n) else (if k4 = 3 then some ((2 : Int32), h, n) else none))
def f_L_land (t0 : Nat) (x0 : Nat) (x1 : Int32) (x2 : Int32) (x3 : Int32) (x4 : Nat) (h : zz_H) (n : Nat) : Option (Int32 × zz_H × Nat) := zz_ob h (some x0) 10 fun _ => zz_th1 (f_X9_land x0 x1 x2 x3 h) (fun v7 h7 => zz_sl 3 h7 (some x4) (0 : Int32) v7.toInt64 fun h11 => some ((0 : Int32), h11, n)) (fun k7 h7 => if k7 = 2 then some ((1 : Int32), h7, n) else (if k7 = 0 then some ((2 : Int32), h7, n) else none))
def f_L_burns_16 (t0 : Nat) (s0 : Int64) (s1 : Int32) (s2 : (Option Nat)) (h : zz_H) (n : Nat) : Option (Int32 × zz_H × Nat) := zz_sl 3 h s2 s1 s0 fun h16 => some ((0 : Int32), h16, n)
def f_L_burns (t0 : Nat) (x0 : Nat) (x1 : Int32) (x2 : Int32) (x3 : Nat) (h : zz_H) (n : Nat) : Option (Int32 × zz_H × Nat) := zz_ob h (some x0) 10 fun _ => zz_th (f_X9_burns x0 x1 x2 h) (fun v5 => if v5 = (0 : Int32) then (f_L_burns_16 t0 (0 : Int64) (0 : Int32) (some x3) h n) else (f_L_burns_16 t0 (1 : Int64) (0 : Int32) (some x3) h n)) (fun k5 => if k5 = 2 then some ((1 : Int32), h, n) else none)
def f_L_tack (t0 : Nat) (x0 : Nat) (x1 : Int32) (x2 : Int32) (x3 : Int32) (x4 : Nat) (h : zz_H) (n : Nat) : Option (Int32 × zz_H × Nat) := zz_ob h (some x0) 10 fun _ => zz_th1 (f_X9_tack x0 x1 x2 x3 h) (fun v7 h7 => zz_sl 3 h7 (some x4) (0 : Int32) v7.toInt64 fun h11 => some ((0 : Int32), h11, n)) (fun k7 h7 => if k7 = 2 then some ((1 : Int32), h7, n) else (if k7 = 4 then some ((2 : Int32), h7, n) else (if k7 = 0 then some ((3 : Int32), h7, n) else none)))
def f_L_quarrels (t0 : Nat) (x0 : Nat) (x1 : Int32) (x2 : Nat) (h : zz_H) (n : Nat) : Option (Int32 × zz_H × Nat) := zz_ob h (some x0) 10 fun _ => zz_th (f_X9_quarrels x0 x1 h) (fun v4 => zz_sl 3 h (some x2) (0 : Int32) v4.toInt64 fun h8 => some ((0 : Int32), h8, n)) (fun k4 => if k4 = 2 then some ((1 : Int32), h, n) else none)
def f_L_promise (t0 : Nat) (x0 : Nat) (x1 : Int32) (x2 : Int32) (x3 : Nat) (h : zz_H) (n : Nat) : Option (Int32 × zz_H × Nat) := zz_ob h (some x0) 10 fun _ => zz_th1 (f_X9_promise x0 x1 x2 h) (fun v5 h5 => zz_sl 3 h5 (some x3) (0 : Int32) v5.toInt64 fun h9 => some ((0 : Int32), h9, n)) (fun k5 h5 => if k5 = 2 then some ((1 : Int32), h5, n) else (if k5 = 0 then some ((2 : Int32), h5, n) else none))
def f_L_holds_15 (t0 : Nat) (s0 : Int64) (s1 : Int32) (s2 : (Option Nat)) (h : zz_H) (n : Nat) : Option (Int32 × zz_H × Nat) := zz_sl 3 h s2 s1 s0 fun h15 => some ((0 : Int32), h15, n)
def f_L_holds (t0 : Nat) (x0 : Nat) (x1 : Int32) (x2 : Nat) (h : zz_H) (n : Nat) : Option (Int32 × zz_H × Nat) := zz_ob h (some x0) 10 fun _ => zz_th (f_X9_holds x0 x1 h) (fun v4 => if v4 = (0 : Int32) then (f_L_holds_15 t0 (0 : Int64) (0 : Int32) (some x2) h n) else (f_L_holds_15 t0 (1 : Int64) (0 : Int32) (some x2) h n)) (fun k4 => if k4 = 2 then some ((1 : Int32), h, n) else (if k4 = 3 then some ((2 : Int32), h, n) else none))
def f_L_quote (t0 : Nat) (x0 : Nat) (x1 : Int32) (x2 : Nat) (h : zz_H) (n : Nat) : Option (Int32 × zz_H × Nat) := zz_ob h (some x0) 10 fun _ => zz_th (f_X9_quote x0 x1 h) (fun v4 => zz_sl 3 h (some x2) (0 : Int32) v4.toInt64 fun h8 => some ((0 : Int32), h8, n)) (fun k4 => if k4 = 2 then some ((1 : Int32), h, n) else none)
def f_L_closedShare (t0 : Nat) (x0 : Nat) (x1 : Nat) (h : zz_H) (n : Nat) : Option (Int32 × zz_H × Nat) := zz_ob h (some x0) 10 fun _ => zz_th (f_X9_closedShare x0 h) (fun v3 => zz_nd (FP.f2d v3) (zz_sd 4 h (some x1) (0 : Int32) (FP.f2d v3) fun h7 => some ((0 : Int32), h7, n))) (fun k3 => if k3 = 4 then some ((1 : Int32), h, n) else none)
def f_L_meanTop (t0 : Nat) (x0 : Nat) (x1 : Int32) (x2 : Nat) (h : zz_H) (n : Nat) : Option (Int32 × zz_H × Nat) := zz_ob h (some x0) 10 fun _ => zz_th (f_X9_meanTop x0 x1 h) (fun v4 => zz_sd 4 h (some x2) (0 : Int32) v4 fun h7 => some ((0 : Int32), h7, n)) (fun k4 => if k4 = 2 then some ((1 : Int32), h, n) else none)
def rm_X10_init : Room := { frames := 1, cells := 179, slots := 1013, locals := 20 }
theorem mf_X10_init : zz_Mf yX10_init cX10_init 1 none 0 := ⟨q_1242, q_11, by decide +kernel, by decide +kernel, by decide +kernel⟩
set_option maxHeartbeats 4000000 in
set_option maxRecDepth 100000 in
theorem mt_X10_init {D : va_G} {dA : Nat → ClassId} {base t0 : Nat} {l : Launch} (hT : l.stackTraces = false) (a0 : Nat) (h : zz_H) (n : Nat) {r0 : Unit} {hF : zz_H} {nF : Nat} (hf : f_X10_init t0 a0 h n = some (r0, hF, nF)) : zz_M D dA base t0 l yX10_init cX10_init 1 none rm_X10_init [.ref a0] h n none hF nF := by
  refine Met.ofW (cc := cX10_init) (maxL := 1) (ret := none) (by decide +kernel) rfl ?_
  intro p e s m args below meth c s₁ B hml hv
  obtain ⟨rfl, hP, hK⟩ := hv
  have X : zz_X D dA base t0 "SpringseatModel" cX10_init 1 none l p s m meth c := ⟨B.exec, B.bytes, hml, B.returns, findClass_of_methodNamed B.named, B.notSynchronized, hT, by rw [hP.1]; exact hP.2.1, hK⟩
  have hx := X.1
  have hb := X.2.1
  have hown := X.2.2.2.2.1
  have hin : meth.name = "<init>" := (name_of_methodNamed B.named B.method).1
  have hR : zz_R D dA base h n s s.heap [] := ⟨hP, va_S.rf⟩
  have hl := lv_entry ([.ref a0]) (n := 1) (by exact Nat.le_of_ble_eq_true rfl)
  rw [lg_entry_eq]
  generalize (lg_sl ([.ref a0]) ++ List.replicate (1 - (lg_sl ([.ref a0])).length) Slot.unset).toArray = ls at hl ⊢
  have hl : lv_has ls 1 [(0, .ref a0)] := hl
  unfold f_X10_init at hf
  refine lv_aload_n hx hb dX10_init_0 rfl (lv_at hl 0 rfl) ?_
  refine zr_obj X hl.1 q_1243 q_35 q_36 dX10_init_1 (Nat.le_of_ble_eq_true rfl) ⟨Nat.le_of_ble_eq_true rfl, Nat.le_of_ble_eq_true rfl⟩ ?_
  refine W.eq (g2 := F0 m 4 ls []) rfl ?_
  refine lv_aload_n hx hb dX10_init_4 rfl (lv_at hl 0 rfl) ?_
  refine lv_iconst (v := (4 : Int32)) hx hb dX10_init_5 (by decide) ?_
  refine zr_newa X hR (t := 0) (N := 4) (a0 := (4, .inl (fun _ => 0))) (by decide) rfl q_73 (fun _ z => z) (fun cA => rfl) (by decide) (by decide) (Nat.le_of_ble_eq_true rfl) (Nat.le_of_ble_eq_true rfl) (Nat.le_of_ble_eq_true rfl) dX10_init_6 (fun H hR => ?_)
  refine W.widen (k := 1) (n := 4) (Nat.le_of_ble_eq_true rfl) (Nat.le_of_ble_eq_true rfl) ?_
  refine zr_pF X hR (r := (some a0)) (v := .ref n) fl_X10_9 rfl hin rfl dX10_init_8 (zz_nr rfl (some n)).1 (zz_nr rfl (some n)).2 hf (fun h8 H locs hf hR => ?_)
  refine lv_aload_n hx hb dX10_init_11 rfl (lv_at hl 0 rfl) ?_
  refine lv_iconst (v := (4 : Int32)) hx hb dX10_init_12 (by decide) ?_
  refine zr_newa X hR (t := 0) (N := 4) (a0 := (4, .inl (fun _ => 0))) (by decide) rfl q_73 (fun _ z => z) (fun cA => rfl) (by decide) (by decide) (Nat.le_of_ble_eq_true rfl) (Nat.le_of_ble_eq_true rfl) (Nat.le_of_ble_eq_true rfl) dX10_init_13 (fun H hR => ?_)
  refine W.widen (k := 2) (n := 8) (Nat.le_of_ble_eq_true rfl) (Nat.le_of_ble_eq_true rfl) ?_
  refine zr_pF X hR (r := (some a0)) (v := .ref (n + 1)) fl_X10_13 rfl hin rfl dX10_init_15 (zz_nr rfl (some (n + 1))).1 (zz_nr rfl (some (n + 1))).2 hf (fun h15 H locs hf hR => ?_)
  refine lv_aload_n hx hb dX10_init_18 rfl (lv_at hl 0 rfl) ?_
  refine lv_iconst (v := (4 : Int32)) hx hb dX10_init_19 (by decide) ?_
  refine zr_newa X hR (t := 0) (N := 4) (a0 := (4, .inl (fun _ => 0))) (by decide) rfl q_73 (fun _ z => z) (fun cA => rfl) (by decide) (by decide) (Nat.le_of_ble_eq_true rfl) (Nat.le_of_ble_eq_true rfl) (Nat.le_of_ble_eq_true rfl) dX10_init_20 (fun H hR => ?_)
  refine W.widen (k := 3) (n := 12) (Nat.le_of_ble_eq_true rfl) (Nat.le_of_ble_eq_true rfl) ?_
  refine zr_pF X hR (r := (some a0)) (v := .ref ((n + 1) + 1)) fl_X10_16 rfl hin rfl dX10_init_22 (zz_nr rfl (some ((n + 1) + 1))).1 (zz_nr rfl (some ((n + 1) + 1))).2 hf (fun h22 H locs hf hR => ?_)
  refine lv_aload_n hx hb dX10_init_25 rfl (lv_at hl 0 rfl) ?_
  refine lv_iconst (v := (4 : Int32)) hx hb dX10_init_26 (by decide) ?_
  refine lv_bipush (v := (9 : Int32)) hx hb dX10_init_27 (by decide) ?_
  refine zr_mna2 X hR (ta := 1) (tb := 8) (N := 4) (M := 9) (ty := .char) (a0 := (9, .inl (fun _ => 0))) (by decide) (by decide) rfl rfl q_1244 (by decide) q_459 (fun _ z => z) (fun _ z => z) rfl (by decide) (by decide) (by decide) (by decide) (by decide) (by decide) (by decide) rfl rfl (fun cA => rfl) (Nat.le_of_ble_eq_true rfl) (Nat.le_of_ble_eq_true rfl) dX10_init_29 (fun H hR => ?_)
  refine W.widen (k := 8) (n := 52) (Nat.le_of_ble_eq_true rfl) (Nat.le_of_ble_eq_true rfl) ?_
  refine zr_pF X hR (r := (some a0)) (v := .ref (((n + 1) + 1) + 1)) fl_X10_21 rfl hin rfl dX10_init_33 (zz_nr rfl (some (((n + 1) + 1) + 1))).1 (zz_nr rfl (some (((n + 1) + 1) + 1))).2 hf (fun h33 H locs hf hR => ?_)
  refine lv_aload_n hx hb dX10_init_36 rfl (lv_at hl 0 rfl) ?_
  refine lv_iconst (v := (4 : Int32)) hx hb dX10_init_37 (by decide) ?_
  refine lv_bipush (v := (9 : Int32)) hx hb dX10_init_38 (by decide) ?_
  refine zr_mna2 X hR (ta := 2) (tb := 9) (N := 4) (M := 9) (ty := .boolean) (a0 := (9, .inl (fun _ => 0))) (by decide) (by decide) rfl rfl q_1246 (by decide) q_1357 (fun _ z => z) (fun _ z => z) rfl (by decide) (by decide) (by decide) (by decide) (by decide) (by decide) (by decide) rfl rfl (fun cA => rfl) (Nat.le_of_ble_eq_true rfl) (Nat.le_of_ble_eq_true rfl) dX10_init_40 (fun H hR => ?_)
  refine W.widen (k := 13) (n := 92) (Nat.le_of_ble_eq_true rfl) (Nat.le_of_ble_eq_true rfl) ?_
  refine zr_pF X hR (r := (some a0)) (v := .ref ((((n + 1) + 1) + 1) + 1 + 4)) fl_X10_26 rfl hin rfl dX10_init_44 (zz_nr rfl (some ((((n + 1) + 1) + 1) + 1 + 4))).1 (zz_nr rfl (some ((((n + 1) + 1) + 1) + 1 + 4))).2 hf (fun h44 H locs hf hR => ?_)
  refine lv_aload_n hx hb dX10_init_47 rfl (lv_at hl 0 rfl) ?_
  refine lv_iconst (v := (4 : Int32)) hx hb dX10_init_48 (by decide) ?_
  refine zr_newa X hR (t := 0) (N := 4) (a0 := (4, .inl (fun _ => 0))) (by decide) rfl q_73 (fun _ z => z) (fun cA => rfl) (by decide) (by decide) (Nat.le_of_ble_eq_true rfl) (Nat.le_of_ble_eq_true rfl) (Nat.le_of_ble_eq_true rfl) dX10_init_49 (fun H hR => ?_)
  refine W.widen (k := 14) (n := 96) (Nat.le_of_ble_eq_true rfl) (Nat.le_of_ble_eq_true rfl) ?_
  refine zr_pF X hR (r := (some a0)) (v := .ref (((((n + 1) + 1) + 1) + 1 + 4) + 1 + 4)) fl_X10_29 rfl hin rfl dX10_init_51 (zz_nr rfl (some (((((n + 1) + 1) + 1) + 1 + 4) + 1 + 4))).1 (zz_nr rfl (some (((((n + 1) + 1) + 1) + 1 + 4) + 1 + 4))).2 hf (fun h51 H locs hf hR => ?_)
  refine lv_aload_n hx hb dX10_init_54 rfl (lv_at hl 0 rfl) ?_
  refine lv_iconst (v := (4 : Int32)) hx hb dX10_init_55 (by decide) ?_
  refine lv_bipush (v := (6 : Int32)) hx hb dX10_init_56 (by decide) ?_
  refine lv_bipush (v := (6 : Int32)) hx hb dX10_init_58 (by decide) ?_
  refine zr_mna3 X hR (N := 4) (B := 6) (M := 6) q_1248 q_73 (by decide) (by decide) (by decide) (by decide) (by decide) (by decide) (by decide) (by decide) (by decide) (Nat.le_of_ble_eq_true rfl) (Nat.le_of_ble_eq_true rfl) dX10_init_60 (fun H hR => ?_)
  refine W.widen (k := 43) (n := 268) (Nat.le_of_ble_eq_true rfl) (Nat.le_of_ble_eq_true rfl) ?_
  refine zr_pF X hR (r := (some a0)) (v := .ref ((((((n + 1) + 1) + 1) + 1 + 4) + 1 + 4) + 1)) fl_X10_34 rfl hin rfl dX10_init_64 (zz_nr rfl (some ((((((n + 1) + 1) + 1) + 1 + 4) + 1 + 4) + 1))).1 (zz_nr rfl (some ((((((n + 1) + 1) + 1) + 1 + 4) + 1 + 4) + 1))).2 hf (fun h64 H locs hf hR => ?_)
  refine lv_aload_n hx hb dX10_init_67 rfl (lv_at hl 0 rfl) ?_
  refine lv_iconst (v := (4 : Int32)) hx hb dX10_init_68 (by decide) ?_
  refine lv_bipush (v := (6 : Int32)) hx hb dX10_init_69 (by decide) ?_
  refine lv_bipush (v := (6 : Int32)) hx hb dX10_init_71 (by decide) ?_
  refine zr_mna3 X hR (N := 4) (B := 6) (M := 6) q_1248 q_73 (by decide) (by decide) (by decide) (by decide) (by decide) (by decide) (by decide) (by decide) (by decide) (Nat.le_of_ble_eq_true rfl) (Nat.le_of_ble_eq_true rfl) dX10_init_73 (fun H hR => ?_)
  refine W.widen (k := 72) (n := 440) (Nat.le_of_ble_eq_true rfl) (Nat.le_of_ble_eq_true rfl) ?_
  refine zr_pF X hR (r := (some a0)) (v := .ref (((((((n + 1) + 1) + 1) + 1 + 4) + 1 + 4) + 1) + 1 + 28)) fl_X10_37 rfl hin rfl dX10_init_77 (zz_nr rfl (some (((((((n + 1) + 1) + 1) + 1 + 4) + 1 + 4) + 1) + 1 + 28))).1 (zz_nr rfl (some (((((((n + 1) + 1) + 1) + 1 + 4) + 1 + 4) + 1) + 1 + 28))).2 hf (fun h77 H locs hf hR => ?_)
  refine lv_aload_n hx hb dX10_init_80 rfl (lv_at hl 0 rfl) ?_
  refine lv_iconst (v := (4 : Int32)) hx hb dX10_init_81 (by decide) ?_
  refine lv_bipush (v := (6 : Int32)) hx hb dX10_init_82 (by decide) ?_
  refine zr_mna2 X hR (ta := 0) (tb := 6) (N := 4) (M := 6) (ty := .int) (a0 := (6, .inl (fun _ => 0))) (by decide) (by decide) rfl rfl q_1251 (by decide) q_73 (fun _ z => z) (fun _ z => z) rfl (by decide) (by decide) (by decide) (by decide) (by decide) (by decide) (by decide) rfl rfl (fun cA => rfl) (Nat.le_of_ble_eq_true rfl) (Nat.le_of_ble_eq_true rfl) dX10_init_84 (fun H hR => ?_)
  refine W.widen (k := 77) (n := 468) (Nat.le_of_ble_eq_true rfl) (Nat.le_of_ble_eq_true rfl) ?_
  refine zr_pF X hR (r := (some a0)) (v := .ref ((((((((n + 1) + 1) + 1) + 1 + 4) + 1 + 4) + 1) + 1 + 28) + 1 + 28)) fl_X10_42 rfl hin rfl dX10_init_88 (zz_nr rfl (some ((((((((n + 1) + 1) + 1) + 1 + 4) + 1 + 4) + 1) + 1 + 28) + 1 + 28))).1 (zz_nr rfl (some ((((((((n + 1) + 1) + 1) + 1 + 4) + 1 + 4) + 1) + 1 + 28) + 1 + 28))).2 hf (fun h88 H locs hf hR => ?_)
  refine lv_aload_n hx hb dX10_init_91 rfl (lv_at hl 0 rfl) ?_
  refine lv_iconst (v := (4 : Int32)) hx hb dX10_init_92 (by decide) ?_
  refine lv_bipush (v := (6 : Int32)) hx hb dX10_init_93 (by decide) ?_
  refine zr_mna2 X hR (ta := 0) (tb := 6) (N := 4) (M := 6) (ty := .int) (a0 := (6, .inl (fun _ => 0))) (by decide) (by decide) rfl rfl q_1251 (by decide) q_73 (fun _ z => z) (fun _ z => z) rfl (by decide) (by decide) (by decide) (by decide) (by decide) (by decide) (by decide) rfl rfl (fun cA => rfl) (Nat.le_of_ble_eq_true rfl) (Nat.le_of_ble_eq_true rfl) dX10_init_95 (fun H hR => ?_)
  refine W.widen (k := 82) (n := 496) (Nat.le_of_ble_eq_true rfl) (Nat.le_of_ble_eq_true rfl) ?_
  refine zr_pF X hR (r := (some a0)) (v := .ref (((((((((n + 1) + 1) + 1) + 1 + 4) + 1 + 4) + 1) + 1 + 28) + 1 + 28) + 1 + 4)) fl_X10_45 rfl hin rfl dX10_init_99 (zz_nr rfl (some (((((((((n + 1) + 1) + 1) + 1 + 4) + 1 + 4) + 1) + 1 + 28) + 1 + 28) + 1 + 4))).1 (zz_nr rfl (some (((((((((n + 1) + 1) + 1) + 1 + 4) + 1 + 4) + 1) + 1 + 28) + 1 + 28) + 1 + 4))).2 hf (fun h99 H locs hf hR => ?_)
  refine lv_aload_n hx hb dX10_init_102 rfl (lv_at hl 0 rfl) ?_
  refine lv_iconst (v := (4 : Int32)) hx hb dX10_init_103 (by decide) ?_
  refine zr_newa X hR (t := 0) (N := 4) (a0 := (4, .inl (fun _ => 0))) (by decide) rfl q_73 (fun _ z => z) (fun cA => rfl) (by decide) (by decide) (Nat.le_of_ble_eq_true rfl) (Nat.le_of_ble_eq_true rfl) (Nat.le_of_ble_eq_true rfl) dX10_init_104 (fun H hR => ?_)
  refine W.widen (k := 83) (n := 500) (Nat.le_of_ble_eq_true rfl) (Nat.le_of_ble_eq_true rfl) ?_
  refine zr_pF X hR (r := (some a0)) (v := .ref ((((((((((n + 1) + 1) + 1) + 1 + 4) + 1 + 4) + 1) + 1 + 28) + 1 + 28) + 1 + 4) + 1 + 4)) fl_X10_48 rfl hin rfl dX10_init_106 (zz_nr rfl (some ((((((((((n + 1) + 1) + 1) + 1 + 4) + 1 + 4) + 1) + 1 + 28) + 1 + 28) + 1 + 4) + 1 + 4))).1 (zz_nr rfl (some ((((((((((n + 1) + 1) + 1) + 1 + 4) + 1 + 4) + 1) + 1 + 28) + 1 + 28) + 1 + 4) + 1 + 4))).2 hf (fun h106 H locs hf hR => ?_)
  refine lv_aload_n hx hb dX10_init_109 rfl (lv_at hl 0 rfl) ?_
  refine lv_iconst (v := (4 : Int32)) hx hb dX10_init_110 (by decide) ?_
  refine lv_iconst (v := (4 : Int32)) hx hb dX10_init_111 (by decide) ?_
  refine zr_mna2 X hR (ta := 1) (tb := 8) (N := 4) (M := 4) (ty := .char) (a0 := (4, .inl (fun _ => 0))) (by decide) (by decide) rfl rfl q_1244 (by decide) q_459 (fun _ z => z) (fun _ z => z) rfl (by decide) (by decide) (by decide) (by decide) (by decide) (by decide) (by decide) rfl rfl (fun cA => rfl) (Nat.le_of_ble_eq_true rfl) (Nat.le_of_ble_eq_true rfl) dX10_init_112 (fun H hR => ?_)
  refine W.widen (k := 88) (n := 520) (Nat.le_of_ble_eq_true rfl) (Nat.le_of_ble_eq_true rfl) ?_
  refine zr_pF X hR (r := (some a0)) (v := .ref (((((((((((n + 1) + 1) + 1) + 1 + 4) + 1 + 4) + 1) + 1 + 28) + 1 + 28) + 1 + 4) + 1 + 4) + 1)) fl_X10_51 rfl hin rfl dX10_init_116 (zz_nr rfl (some (((((((((((n + 1) + 1) + 1) + 1 + 4) + 1 + 4) + 1) + 1 + 28) + 1 + 28) + 1 + 4) + 1 + 4) + 1))).1 (zz_nr rfl (some (((((((((((n + 1) + 1) + 1) + 1 + 4) + 1 + 4) + 1) + 1 + 28) + 1 + 28) + 1 + 4) + 1 + 4) + 1))).2 hf (fun h116 H locs hf hR => ?_)
  refine lv_aload_n hx hb dX10_init_119 rfl (lv_at hl 0 rfl) ?_
  refine lv_iconst (v := (4 : Int32)) hx hb dX10_init_120 (by decide) ?_
  refine lv_iconst (v := (4 : Int32)) hx hb dX10_init_121 (by decide) ?_
  refine zr_mna2 X hR (ta := 0) (tb := 6) (N := 4) (M := 4) (ty := .int) (a0 := (4, .inl (fun _ => 0))) (by decide) (by decide) rfl rfl q_1251 (by decide) q_73 (fun _ z => z) (fun _ z => z) rfl (by decide) (by decide) (by decide) (by decide) (by decide) (by decide) (by decide) rfl rfl (fun cA => rfl) (Nat.le_of_ble_eq_true rfl) (Nat.le_of_ble_eq_true rfl) dX10_init_122 (fun H hR => ?_)
  refine W.widen (k := 93) (n := 540) (Nat.le_of_ble_eq_true rfl) (Nat.le_of_ble_eq_true rfl) ?_
  refine zr_pF X hR (r := (some a0)) (v := .ref ((((((((((((n + 1) + 1) + 1) + 1 + 4) + 1 + 4) + 1) + 1 + 28) + 1 + 28) + 1 + 4) + 1 + 4) + 1) + 1 + 4)) fl_X10_54 rfl hin rfl dX10_init_126 (zz_nr rfl (some ((((((((((((n + 1) + 1) + 1) + 1 + 4) + 1 + 4) + 1) + 1 + 28) + 1 + 28) + 1 + 4) + 1 + 4) + 1) + 1 + 4))).1 (zz_nr rfl (some ((((((((((((n + 1) + 1) + 1) + 1 + 4) + 1 + 4) + 1) + 1 + 28) + 1 + 28) + 1 + 4) + 1 + 4) + 1) + 1 + 4))).2 hf (fun h126 H locs hf hR => ?_)
  refine lv_aload_n hx hb dX10_init_129 rfl (lv_at hl 0 rfl) ?_
  refine lv_iconst (v := (4 : Int32)) hx hb dX10_init_130 (by decide) ?_
  refine lv_iconst (v := (4 : Int32)) hx hb dX10_init_131 (by decide) ?_
  refine zr_mna2 X hR (ta := 0) (tb := 6) (N := 4) (M := 4) (ty := .int) (a0 := (4, .inl (fun _ => 0))) (by decide) (by decide) rfl rfl q_1251 (by decide) q_73 (fun _ z => z) (fun _ z => z) rfl (by decide) (by decide) (by decide) (by decide) (by decide) (by decide) (by decide) rfl rfl (fun cA => rfl) (Nat.le_of_ble_eq_true rfl) (Nat.le_of_ble_eq_true rfl) dX10_init_132 (fun H hR => ?_)
  refine W.widen (k := 98) (n := 560) (Nat.le_of_ble_eq_true rfl) (Nat.le_of_ble_eq_true rfl) ?_
  refine zr_pF X hR (r := (some a0)) (v := .ref (((((((((((((n + 1) + 1) + 1) + 1 + 4) + 1 + 4) + 1) + 1 + 28) + 1 + 28) + 1 + 4) + 1 + 4) + 1) + 1 + 4) + 1 + 4)) fl_X10_57 rfl hin rfl dX10_init_136 (zz_nr rfl (some (((((((((((((n + 1) + 1) + 1) + 1 + 4) + 1 + 4) + 1) + 1 + 28) + 1 + 28) + 1 + 4) + 1 + 4) + 1) + 1 + 4) + 1 + 4))).1 (zz_nr rfl (some (((((((((((((n + 1) + 1) + 1) + 1 + 4) + 1 + 4) + 1) + 1 + 28) + 1 + 28) + 1 + 4) + 1 + 4) + 1) + 1 + 4) + 1 + 4))).2 hf (fun h136 H locs hf hR => ?_)
  refine lv_aload_n hx hb dX10_init_139 rfl (lv_at hl 0 rfl) ?_
  refine lv_iconst (v := (4 : Int32)) hx hb dX10_init_140 (by decide) ?_
  refine lv_iconst (v := (4 : Int32)) hx hb dX10_init_141 (by decide) ?_
  refine zr_mna2 X hR (ta := 3) (tb := 10) (N := 4) (M := 4) (ty := .long) (a0 := (4, .inr (.inl (fun _ => 0)))) (by decide) (by decide) rfl rfl q_1252 (by decide) q_1358 (fun _ z => z) (fun _ z => z) rfl (by decide) (by decide) (by decide) (by decide) (by decide) (by decide) (by decide) rfl rfl (fun cA => rfl) (Nat.le_of_ble_eq_true rfl) (Nat.le_of_ble_eq_true rfl) dX10_init_142 (fun H hR => ?_)
  refine W.widen (k := 103) (n := 580) (Nat.le_of_ble_eq_true rfl) (Nat.le_of_ble_eq_true rfl) ?_
  refine zr_pF X hR (r := (some a0)) (v := .ref ((((((((((((((n + 1) + 1) + 1) + 1 + 4) + 1 + 4) + 1) + 1 + 28) + 1 + 28) + 1 + 4) + 1 + 4) + 1) + 1 + 4) + 1 + 4) + 1 + 4)) fl_X10_62 rfl hin rfl dX10_init_146 (zz_nr rfl (some ((((((((((((((n + 1) + 1) + 1) + 1 + 4) + 1 + 4) + 1) + 1 + 28) + 1 + 28) + 1 + 4) + 1 + 4) + 1) + 1 + 4) + 1 + 4) + 1 + 4))).1 (zz_nr rfl (some ((((((((((((((n + 1) + 1) + 1) + 1 + 4) + 1 + 4) + 1) + 1 + 28) + 1 + 28) + 1 + 4) + 1 + 4) + 1) + 1 + 4) + 1 + 4) + 1 + 4))).2 hf (fun h146 H locs hf hR => ?_)
  refine lv_aload_n hx hb dX10_init_149 rfl (lv_at hl 0 rfl) ?_
  refine lv_iconst (v := (4 : Int32)) hx hb dX10_init_150 (by decide) ?_
  refine lv_iconst (v := (4 : Int32)) hx hb dX10_init_151 (by decide) ?_
  refine zr_mna2 X hR (ta := 0) (tb := 6) (N := 4) (M := 4) (ty := .int) (a0 := (4, .inl (fun _ => 0))) (by decide) (by decide) rfl rfl q_1251 (by decide) q_73 (fun _ z => z) (fun _ z => z) rfl (by decide) (by decide) (by decide) (by decide) (by decide) (by decide) (by decide) rfl rfl (fun cA => rfl) (Nat.le_of_ble_eq_true rfl) (Nat.le_of_ble_eq_true rfl) dX10_init_152 (fun H hR => ?_)
  refine W.widen (k := 108) (n := 600) (Nat.le_of_ble_eq_true rfl) (Nat.le_of_ble_eq_true rfl) ?_
  refine zr_pF X hR (r := (some a0)) (v := .ref (((((((((((((((n + 1) + 1) + 1) + 1 + 4) + 1 + 4) + 1) + 1 + 28) + 1 + 28) + 1 + 4) + 1 + 4) + 1) + 1 + 4) + 1 + 4) + 1 + 4) + 1 + 4)) fl_X10_65 rfl hin rfl dX10_init_156 (zz_nr rfl (some (((((((((((((((n + 1) + 1) + 1) + 1 + 4) + 1 + 4) + 1) + 1 + 28) + 1 + 28) + 1 + 4) + 1 + 4) + 1) + 1 + 4) + 1 + 4) + 1 + 4) + 1 + 4))).1 (zz_nr rfl (some (((((((((((((((n + 1) + 1) + 1) + 1 + 4) + 1 + 4) + 1) + 1 + 28) + 1 + 28) + 1 + 4) + 1 + 4) + 1) + 1 + 4) + 1 + 4) + 1 + 4) + 1 + 4))).2 hf (fun h156 H locs hf hR => ?_)
  refine lv_aload_n hx hb dX10_init_159 rfl (lv_at hl 0 rfl) ?_
  refine lv_iconst (v := (4 : Int32)) hx hb dX10_init_160 (by decide) ?_
  refine lv_bipush (v := (6 : Int32)) hx hb dX10_init_161 (by decide) ?_
  refine lv_bipush (v := (6 : Int32)) hx hb dX10_init_163 (by decide) ?_
  refine zr_mna3 X hR (N := 4) (B := 6) (M := 6) q_1248 q_73 (by decide) (by decide) (by decide) (by decide) (by decide) (by decide) (by decide) (by decide) (by decide) (Nat.le_of_ble_eq_true rfl) (Nat.le_of_ble_eq_true rfl) dX10_init_165 (fun H hR => ?_)
  refine W.widen (k := 137) (n := 772) (Nat.le_of_ble_eq_true rfl) (Nat.le_of_ble_eq_true rfl) ?_
  refine zr_pF X hR (r := (some a0)) (v := .ref ((((((((((((((((n + 1) + 1) + 1) + 1 + 4) + 1 + 4) + 1) + 1 + 28) + 1 + 28) + 1 + 4) + 1 + 4) + 1) + 1 + 4) + 1 + 4) + 1 + 4) + 1 + 4) + 1 + 4)) fl_X10_68 rfl hin rfl dX10_init_169 (zz_nr rfl (some ((((((((((((((((n + 1) + 1) + 1) + 1 + 4) + 1 + 4) + 1) + 1 + 28) + 1 + 28) + 1 + 4) + 1 + 4) + 1) + 1 + 4) + 1 + 4) + 1 + 4) + 1 + 4) + 1 + 4))).1 (zz_nr rfl (some ((((((((((((((((n + 1) + 1) + 1) + 1 + 4) + 1 + 4) + 1) + 1 + 28) + 1 + 28) + 1 + 4) + 1 + 4) + 1) + 1 + 4) + 1 + 4) + 1 + 4) + 1 + 4) + 1 + 4))).2 hf (fun h169 H locs hf hR => ?_)
  refine lv_aload_n hx hb dX10_init_172 rfl (lv_at hl 0 rfl) ?_
  refine lv_iconst (v := (4 : Int32)) hx hb dX10_init_173 (by decide) ?_
  refine lv_bipush (v := (6 : Int32)) hx hb dX10_init_174 (by decide) ?_
  refine zr_mna2 X hR (ta := 0) (tb := 6) (N := 4) (M := 6) (ty := .int) (a0 := (6, .inl (fun _ => 0))) (by decide) (by decide) rfl rfl q_1251 (by decide) q_73 (fun _ z => z) (fun _ z => z) rfl (by decide) (by decide) (by decide) (by decide) (by decide) (by decide) (by decide) rfl rfl (fun cA => rfl) (Nat.le_of_ble_eq_true rfl) (Nat.le_of_ble_eq_true rfl) dX10_init_176 (fun H hR => ?_)
  refine W.widen (k := 142) (n := 800) (Nat.le_of_ble_eq_true rfl) (Nat.le_of_ble_eq_true rfl) ?_
  refine zr_pF X hR (r := (some a0)) (v := .ref (((((((((((((((((n + 1) + 1) + 1) + 1 + 4) + 1 + 4) + 1) + 1 + 28) + 1 + 28) + 1 + 4) + 1 + 4) + 1) + 1 + 4) + 1 + 4) + 1 + 4) + 1 + 4) + 1 + 4) + 1 + 28)) fl_X10_71 rfl hin rfl dX10_init_180 (zz_nr rfl (some (((((((((((((((((n + 1) + 1) + 1) + 1 + 4) + 1 + 4) + 1) + 1 + 28) + 1 + 28) + 1 + 4) + 1 + 4) + 1) + 1 + 4) + 1 + 4) + 1 + 4) + 1 + 4) + 1 + 4) + 1 + 28))).1 (zz_nr rfl (some (((((((((((((((((n + 1) + 1) + 1) + 1 + 4) + 1 + 4) + 1) + 1 + 28) + 1 + 28) + 1 + 4) + 1 + 4) + 1) + 1 + 4) + 1 + 4) + 1 + 4) + 1 + 4) + 1 + 4) + 1 + 28))).2 hf (fun h180 H locs hf hR => ?_)
  refine lv_aload_n hx hb dX10_init_183 rfl (lv_at hl 0 rfl) ?_
  refine lv_iconst (v := (4 : Int32)) hx hb dX10_init_184 (by decide) ?_
  refine zr_newa X hR (t := 0) (N := 4) (a0 := (4, .inl (fun _ => 0))) (by decide) rfl q_73 (fun _ z => z) (fun cA => rfl) (by decide) (by decide) (Nat.le_of_ble_eq_true rfl) (Nat.le_of_ble_eq_true rfl) (Nat.le_of_ble_eq_true rfl) dX10_init_185 (fun H hR => ?_)
  refine W.widen (k := 143) (n := 804) (Nat.le_of_ble_eq_true rfl) (Nat.le_of_ble_eq_true rfl) ?_
  refine zr_pF X hR (r := (some a0)) (v := .ref ((((((((((((((((((n + 1) + 1) + 1) + 1 + 4) + 1 + 4) + 1) + 1 + 28) + 1 + 28) + 1 + 4) + 1 + 4) + 1) + 1 + 4) + 1 + 4) + 1 + 4) + 1 + 4) + 1 + 4) + 1 + 28) + 1 + 4)) fl_X10_74 rfl hin rfl dX10_init_187 (zz_nr rfl (some ((((((((((((((((((n + 1) + 1) + 1) + 1 + 4) + 1 + 4) + 1) + 1 + 28) + 1 + 28) + 1 + 4) + 1 + 4) + 1) + 1 + 4) + 1 + 4) + 1 + 4) + 1 + 4) + 1 + 4) + 1 + 28) + 1 + 4))).1 (zz_nr rfl (some ((((((((((((((((((n + 1) + 1) + 1) + 1 + 4) + 1 + 4) + 1) + 1 + 28) + 1 + 28) + 1 + 4) + 1 + 4) + 1) + 1 + 4) + 1 + 4) + 1 + 4) + 1 + 4) + 1 + 4) + 1 + 28) + 1 + 4))).2 hf (fun h187 H locs hf hR => ?_)
  refine lv_aload_n hx hb dX10_init_190 rfl (lv_at hl 0 rfl) ?_
  refine lv_iconst (v := (4 : Int32)) hx hb dX10_init_191 (by decide) ?_
  refine zr_newa X hR (t := 0) (N := 4) (a0 := (4, .inl (fun _ => 0))) (by decide) rfl q_73 (fun _ z => z) (fun cA => rfl) (by decide) (by decide) (Nat.le_of_ble_eq_true rfl) (Nat.le_of_ble_eq_true rfl) (Nat.le_of_ble_eq_true rfl) dX10_init_192 (fun H hR => ?_)
  refine W.widen (k := 144) (n := 808) (Nat.le_of_ble_eq_true rfl) (Nat.le_of_ble_eq_true rfl) ?_
  refine zr_pF X hR (r := (some a0)) (v := .ref (((((((((((((((((((n + 1) + 1) + 1) + 1 + 4) + 1 + 4) + 1) + 1 + 28) + 1 + 28) + 1 + 4) + 1 + 4) + 1) + 1 + 4) + 1 + 4) + 1 + 4) + 1 + 4) + 1 + 4) + 1 + 28) + 1 + 4) + 1)) fl_X10_77 rfl hin rfl dX10_init_194 (zz_nr rfl (some (((((((((((((((((((n + 1) + 1) + 1) + 1 + 4) + 1 + 4) + 1) + 1 + 28) + 1 + 28) + 1 + 4) + 1 + 4) + 1) + 1 + 4) + 1 + 4) + 1 + 4) + 1 + 4) + 1 + 4) + 1 + 28) + 1 + 4) + 1))).1 (zz_nr rfl (some (((((((((((((((((((n + 1) + 1) + 1) + 1 + 4) + 1 + 4) + 1) + 1 + 28) + 1 + 28) + 1 + 4) + 1 + 4) + 1) + 1 + 4) + 1 + 4) + 1 + 4) + 1 + 4) + 1 + 4) + 1 + 28) + 1 + 4) + 1))).2 hf (fun h194 H locs hf hR => ?_)
  refine lv_aload_n hx hb dX10_init_197 rfl (lv_at hl 0 rfl) ?_
  refine lv_iconst (v := (4 : Int32)) hx hb dX10_init_198 (by decide) ?_
  refine zr_newa X hR (t := 0) (N := 4) (a0 := (4, .inl (fun _ => 0))) (by decide) rfl q_73 (fun _ z => z) (fun cA => rfl) (by decide) (by decide) (Nat.le_of_ble_eq_true rfl) (Nat.le_of_ble_eq_true rfl) (Nat.le_of_ble_eq_true rfl) dX10_init_199 (fun H hR => ?_)
  refine W.widen (k := 145) (n := 812) (Nat.le_of_ble_eq_true rfl) (Nat.le_of_ble_eq_true rfl) ?_
  refine zr_pF X hR (r := (some a0)) (v := .ref ((((((((((((((((((((n + 1) + 1) + 1) + 1 + 4) + 1 + 4) + 1) + 1 + 28) + 1 + 28) + 1 + 4) + 1 + 4) + 1) + 1 + 4) + 1 + 4) + 1 + 4) + 1 + 4) + 1 + 4) + 1 + 28) + 1 + 4) + 1) + 1)) fl_X10_80 rfl hin rfl dX10_init_201 (zz_nr rfl (some ((((((((((((((((((((n + 1) + 1) + 1) + 1 + 4) + 1 + 4) + 1) + 1 + 28) + 1 + 28) + 1 + 4) + 1 + 4) + 1) + 1 + 4) + 1 + 4) + 1 + 4) + 1 + 4) + 1 + 4) + 1 + 28) + 1 + 4) + 1) + 1))).1 (zz_nr rfl (some ((((((((((((((((((((n + 1) + 1) + 1) + 1 + 4) + 1 + 4) + 1) + 1 + 28) + 1 + 28) + 1 + 4) + 1 + 4) + 1) + 1 + 4) + 1 + 4) + 1 + 4) + 1 + 4) + 1 + 4) + 1 + 28) + 1 + 4) + 1) + 1))).2 hf (fun h201 H locs hf hR => ?_)
  refine lv_aload_n hx hb dX10_init_204 rfl (lv_at hl 0 rfl) ?_
  refine lv_iconst (v := (4 : Int32)) hx hb dX10_init_205 (by decide) ?_
  refine zr_newa X hR (t := 0) (N := 4) (a0 := (4, .inl (fun _ => 0))) (by decide) rfl q_73 (fun _ z => z) (fun cA => rfl) (by decide) (by decide) (Nat.le_of_ble_eq_true rfl) (Nat.le_of_ble_eq_true rfl) (Nat.le_of_ble_eq_true rfl) dX10_init_206 (fun H hR => ?_)
  refine W.widen (k := 146) (n := 816) (Nat.le_of_ble_eq_true rfl) (Nat.le_of_ble_eq_true rfl) ?_
  refine zr_pF X hR (r := (some a0)) (v := .ref (((((((((((((((((((((n + 1) + 1) + 1) + 1 + 4) + 1 + 4) + 1) + 1 + 28) + 1 + 28) + 1 + 4) + 1 + 4) + 1) + 1 + 4) + 1 + 4) + 1 + 4) + 1 + 4) + 1 + 4) + 1 + 28) + 1 + 4) + 1) + 1) + 1)) fl_X10_83 rfl hin rfl dX10_init_208 (zz_nr rfl (some (((((((((((((((((((((n + 1) + 1) + 1) + 1 + 4) + 1 + 4) + 1) + 1 + 28) + 1 + 28) + 1 + 4) + 1 + 4) + 1) + 1 + 4) + 1 + 4) + 1 + 4) + 1 + 4) + 1 + 4) + 1 + 28) + 1 + 4) + 1) + 1) + 1))).1 (zz_nr rfl (some (((((((((((((((((((((n + 1) + 1) + 1) + 1 + 4) + 1 + 4) + 1) + 1 + 28) + 1 + 28) + 1 + 4) + 1 + 4) + 1) + 1 + 4) + 1 + 4) + 1 + 4) + 1 + 4) + 1 + 4) + 1 + 28) + 1 + 4) + 1) + 1) + 1))).2 hf (fun h208 H locs hf hR => ?_)
  refine lv_aload_n hx hb dX10_init_211 rfl (lv_at hl 0 rfl) ?_
  refine lv_iconst (v := (3 : Int32)) hx hb dX10_init_212 (by decide) ?_
  refine lv_bipush (v := (6 : Int32)) hx hb dX10_init_213 (by decide) ?_
  refine lv_bipush (v := (6 : Int32)) hx hb dX10_init_215 (by decide) ?_
  refine zr_mna3 X hR (N := 3) (B := 6) (M := 6) q_1248 q_73 (by decide) (by decide) (by decide) (by decide) (by decide) (by decide) (by decide) (by decide) (by decide) (Nat.le_of_ble_eq_true rfl) (Nat.le_of_ble_eq_true rfl) dX10_init_217 (fun H hR => ?_)
  refine W.widen (k := 168) (n := 945) (Nat.le_of_ble_eq_true rfl) (Nat.le_of_ble_eq_true rfl) ?_
  refine zr_pF X hR (r := (some a0)) (v := .ref ((((((((((((((((((((((n + 1) + 1) + 1) + 1 + 4) + 1 + 4) + 1) + 1 + 28) + 1 + 28) + 1 + 4) + 1 + 4) + 1) + 1 + 4) + 1 + 4) + 1 + 4) + 1 + 4) + 1 + 4) + 1 + 28) + 1 + 4) + 1) + 1) + 1) + 1)) fl_X10_86 rfl hin rfl dX10_init_221 (zz_nr rfl (some ((((((((((((((((((((((n + 1) + 1) + 1) + 1 + 4) + 1 + 4) + 1) + 1 + 28) + 1 + 28) + 1 + 4) + 1 + 4) + 1) + 1 + 4) + 1 + 4) + 1 + 4) + 1 + 4) + 1 + 4) + 1 + 28) + 1 + 4) + 1) + 1) + 1) + 1))).1 (zz_nr rfl (some ((((((((((((((((((((((n + 1) + 1) + 1) + 1 + 4) + 1 + 4) + 1) + 1 + 28) + 1 + 28) + 1 + 4) + 1 + 4) + 1) + 1 + 4) + 1 + 4) + 1 + 4) + 1 + 4) + 1 + 4) + 1 + 28) + 1 + 4) + 1) + 1) + 1) + 1))).2 hf (fun h221 H locs hf hR => ?_)
  refine lv_aload_n hx hb dX10_init_224 rfl (lv_at hl 0 rfl) ?_
  refine lv_iconst (v := (4 : Int32)) hx hb dX10_init_225 (by decide) ?_
  refine zr_newa X hR (t := 0) (N := 4) (a0 := (4, .inl (fun _ => 0))) (by decide) rfl q_73 (fun _ z => z) (fun cA => rfl) (by decide) (by decide) (Nat.le_of_ble_eq_true rfl) (Nat.le_of_ble_eq_true rfl) (Nat.le_of_ble_eq_true rfl) dX10_init_226 (fun H hR => ?_)
  refine W.widen (k := 169) (n := 949) (Nat.le_of_ble_eq_true rfl) (Nat.le_of_ble_eq_true rfl) ?_
  refine zr_pF X hR (r := (some a0)) (v := .ref (((((((((((((((((((((((n + 1) + 1) + 1) + 1 + 4) + 1 + 4) + 1) + 1 + 28) + 1 + 28) + 1 + 4) + 1 + 4) + 1) + 1 + 4) + 1 + 4) + 1 + 4) + 1 + 4) + 1 + 4) + 1 + 28) + 1 + 4) + 1) + 1) + 1) + 1) + 1 + 21)) fl_X10_89 rfl hin rfl dX10_init_228 (zz_nr rfl (some (((((((((((((((((((((((n + 1) + 1) + 1) + 1 + 4) + 1 + 4) + 1) + 1 + 28) + 1 + 28) + 1 + 4) + 1 + 4) + 1) + 1 + 4) + 1 + 4) + 1 + 4) + 1 + 4) + 1 + 4) + 1 + 28) + 1 + 4) + 1) + 1) + 1) + 1) + 1 + 21))).1 (zz_nr rfl (some (((((((((((((((((((((((n + 1) + 1) + 1) + 1 + 4) + 1 + 4) + 1) + 1 + 28) + 1 + 28) + 1 + 4) + 1 + 4) + 1) + 1 + 4) + 1 + 4) + 1 + 4) + 1 + 4) + 1 + 4) + 1 + 28) + 1 + 4) + 1) + 1) + 1) + 1) + 1 + 21))).2 hf (fun h228 H locs hf hR => ?_)
  refine lv_aload_n hx hb dX10_init_231 rfl (lv_at hl 0 rfl) ?_
  refine lv_iconst (v := (4 : Int32)) hx hb dX10_init_232 (by decide) ?_
  refine zr_newa X hR (t := 0) (N := 4) (a0 := (4, .inl (fun _ => 0))) (by decide) rfl q_73 (fun _ z => z) (fun cA => rfl) (by decide) (by decide) (Nat.le_of_ble_eq_true rfl) (Nat.le_of_ble_eq_true rfl) (Nat.le_of_ble_eq_true rfl) dX10_init_233 (fun H hR => ?_)
  refine W.widen (k := 170) (n := 953) (Nat.le_of_ble_eq_true rfl) (Nat.le_of_ble_eq_true rfl) ?_
  refine zr_pF X hR (r := (some a0)) (v := .ref ((((((((((((((((((((((((n + 1) + 1) + 1) + 1 + 4) + 1 + 4) + 1) + 1 + 28) + 1 + 28) + 1 + 4) + 1 + 4) + 1) + 1 + 4) + 1 + 4) + 1 + 4) + 1 + 4) + 1 + 4) + 1 + 28) + 1 + 4) + 1) + 1) + 1) + 1) + 1 + 21) + 1)) fl_X10_92 rfl hin rfl dX10_init_235 (zz_nr rfl (some ((((((((((((((((((((((((n + 1) + 1) + 1) + 1 + 4) + 1 + 4) + 1) + 1 + 28) + 1 + 28) + 1 + 4) + 1 + 4) + 1) + 1 + 4) + 1 + 4) + 1 + 4) + 1 + 4) + 1 + 4) + 1 + 28) + 1 + 4) + 1) + 1) + 1) + 1) + 1 + 21) + 1))).1 (zz_nr rfl (some ((((((((((((((((((((((((n + 1) + 1) + 1) + 1 + 4) + 1 + 4) + 1) + 1 + 28) + 1 + 28) + 1 + 4) + 1 + 4) + 1) + 1 + 4) + 1 + 4) + 1 + 4) + 1 + 4) + 1 + 4) + 1 + 28) + 1 + 4) + 1) + 1) + 1) + 1) + 1 + 21) + 1))).2 hf (fun h235 H locs hf hR => ?_)
  refine lv_aload_n hx hb dX10_init_238 rfl (lv_at hl 0 rfl) ?_
  refine lv_iconst (v := (4 : Int32)) hx hb dX10_init_239 (by decide) ?_
  refine zr_newa X hR (t := 0) (N := 4) (a0 := (4, .inl (fun _ => 0))) (by decide) rfl q_73 (fun _ z => z) (fun cA => rfl) (by decide) (by decide) (Nat.le_of_ble_eq_true rfl) (Nat.le_of_ble_eq_true rfl) (Nat.le_of_ble_eq_true rfl) dX10_init_240 (fun H hR => ?_)
  refine W.widen (k := 171) (n := 957) (Nat.le_of_ble_eq_true rfl) (Nat.le_of_ble_eq_true rfl) ?_
  refine zr_pF X hR (r := (some a0)) (v := .ref (((((((((((((((((((((((((n + 1) + 1) + 1) + 1 + 4) + 1 + 4) + 1) + 1 + 28) + 1 + 28) + 1 + 4) + 1 + 4) + 1) + 1 + 4) + 1 + 4) + 1 + 4) + 1 + 4) + 1 + 4) + 1 + 28) + 1 + 4) + 1) + 1) + 1) + 1) + 1 + 21) + 1) + 1)) fl_X10_95 rfl hin rfl dX10_init_242 (zz_nr rfl (some (((((((((((((((((((((((((n + 1) + 1) + 1) + 1 + 4) + 1 + 4) + 1) + 1 + 28) + 1 + 28) + 1 + 4) + 1 + 4) + 1) + 1 + 4) + 1 + 4) + 1 + 4) + 1 + 4) + 1 + 4) + 1 + 28) + 1 + 4) + 1) + 1) + 1) + 1) + 1 + 21) + 1) + 1))).1 (zz_nr rfl (some (((((((((((((((((((((((((n + 1) + 1) + 1) + 1 + 4) + 1 + 4) + 1) + 1 + 28) + 1 + 28) + 1 + 4) + 1 + 4) + 1) + 1 + 4) + 1 + 4) + 1 + 4) + 1 + 4) + 1 + 4) + 1 + 28) + 1 + 4) + 1) + 1) + 1) + 1) + 1 + 21) + 1) + 1))).2 hf (fun h242 H locs hf hR => ?_)
  refine lv_aload_n hx hb dX10_init_245 rfl (lv_at hl 0 rfl) ?_
  refine lv_iconst (v := (4 : Int32)) hx hb dX10_init_246 (by decide) ?_
  refine zr_newa X hR (t := 0) (N := 4) (a0 := (4, .inl (fun _ => 0))) (by decide) rfl q_73 (fun _ z => z) (fun cA => rfl) (by decide) (by decide) (Nat.le_of_ble_eq_true rfl) (Nat.le_of_ble_eq_true rfl) (Nat.le_of_ble_eq_true rfl) dX10_init_247 (fun H hR => ?_)
  refine W.widen (k := 172) (n := 961) (Nat.le_of_ble_eq_true rfl) (Nat.le_of_ble_eq_true rfl) ?_
  refine zr_pF X hR (r := (some a0)) (v := .ref ((((((((((((((((((((((((((n + 1) + 1) + 1) + 1 + 4) + 1 + 4) + 1) + 1 + 28) + 1 + 28) + 1 + 4) + 1 + 4) + 1) + 1 + 4) + 1 + 4) + 1 + 4) + 1 + 4) + 1 + 4) + 1 + 28) + 1 + 4) + 1) + 1) + 1) + 1) + 1 + 21) + 1) + 1) + 1)) fl_X10_98 rfl hin rfl dX10_init_249 (zz_nr rfl (some ((((((((((((((((((((((((((n + 1) + 1) + 1) + 1 + 4) + 1 + 4) + 1) + 1 + 28) + 1 + 28) + 1 + 4) + 1 + 4) + 1) + 1 + 4) + 1 + 4) + 1 + 4) + 1 + 4) + 1 + 4) + 1 + 28) + 1 + 4) + 1) + 1) + 1) + 1) + 1 + 21) + 1) + 1) + 1))).1 (zz_nr rfl (some ((((((((((((((((((((((((((n + 1) + 1) + 1) + 1 + 4) + 1 + 4) + 1) + 1 + 28) + 1 + 28) + 1 + 4) + 1 + 4) + 1) + 1 + 4) + 1 + 4) + 1 + 4) + 1 + 4) + 1 + 4) + 1 + 28) + 1 + 4) + 1) + 1) + 1) + 1) + 1 + 21) + 1) + 1) + 1))).2 hf (fun h249 H locs hf hR => ?_)
  refine lv_aload_n hx hb dX10_init_252 rfl (lv_at hl 0 rfl) ?_
  refine lv_iconst (v := (4 : Int32)) hx hb dX10_init_253 (by decide) ?_
  refine lv_bipush (v := (10 : Int32)) hx hb dX10_init_254 (by decide) ?_
  refine zr_mna2 X hR (ta := 0) (tb := 6) (N := 4) (M := 10) (ty := .int) (a0 := (10, .inl (fun _ => 0))) (by decide) (by decide) rfl rfl q_1251 (by decide) q_73 (fun _ z => z) (fun _ z => z) rfl (by decide) (by decide) (by decide) (by decide) (by decide) (by decide) (by decide) rfl rfl (fun cA => rfl) (Nat.le_of_ble_eq_true rfl) (Nat.le_of_ble_eq_true rfl) dX10_init_256 (fun H hR => ?_)
  refine W.widen (k := 177) (n := 1005) (Nat.le_of_ble_eq_true rfl) (Nat.le_of_ble_eq_true rfl) ?_
  refine zr_pF X hR (r := (some a0)) (v := .ref (((((((((((((((((((((((((((n + 1) + 1) + 1) + 1 + 4) + 1 + 4) + 1) + 1 + 28) + 1 + 28) + 1 + 4) + 1 + 4) + 1) + 1 + 4) + 1 + 4) + 1 + 4) + 1 + 4) + 1 + 4) + 1 + 28) + 1 + 4) + 1) + 1) + 1) + 1) + 1 + 21) + 1) + 1) + 1) + 1)) fl_X10_101 rfl hin rfl dX10_init_260 (zz_nr rfl (some (((((((((((((((((((((((((((n + 1) + 1) + 1) + 1 + 4) + 1 + 4) + 1) + 1 + 28) + 1 + 28) + 1 + 4) + 1 + 4) + 1) + 1 + 4) + 1 + 4) + 1 + 4) + 1 + 4) + 1 + 4) + 1 + 28) + 1 + 4) + 1) + 1) + 1) + 1) + 1 + 21) + 1) + 1) + 1) + 1))).1 (zz_nr rfl (some (((((((((((((((((((((((((((n + 1) + 1) + 1) + 1 + 4) + 1 + 4) + 1) + 1 + 28) + 1 + 28) + 1 + 4) + 1 + 4) + 1) + 1 + 4) + 1 + 4) + 1 + 4) + 1 + 4) + 1 + 4) + 1 + 28) + 1 + 4) + 1) + 1) + 1) + 1) + 1 + 21) + 1) + 1) + 1) + 1))).2 hf (fun h260 H locs hf hR => ?_)
  refine lv_aload_n hx hb dX10_init_263 rfl (lv_at hl 0 rfl) ?_
  refine lv_iconst (v := (4 : Int32)) hx hb dX10_init_264 (by decide) ?_
  refine zr_newa X hR (t := 1) (N := 4) (a0 := (4, .inl (fun _ => 0))) (by decide) rfl q_459 (fun _ z => z) (fun cA => rfl) (by decide) (by decide) (Nat.le_of_ble_eq_true rfl) (Nat.le_of_ble_eq_true rfl) (Nat.le_of_ble_eq_true rfl) dX10_init_265 (fun H hR => ?_)
  refine W.widen (k := 178) (n := 1009) (Nat.le_of_ble_eq_true rfl) (Nat.le_of_ble_eq_true rfl) ?_
  refine lv_dup hx hb dX10_init_267 rfl ?_
  refine lv_iconst (v := (0 : Int32)) hx hb dX10_init_268 (by decide) ?_
  refine lv_bipush (v := (45 : Int32)) hx hb dX10_init_269 (by decide) ?_
  refine zr_cast X hR (r := (some ((((((((((((((((((((((((((((n + 1) + 1) + 1) + 1 + 4) + 1 + 4) + 1) + 1 + 28) + 1 + 28) + 1 + 4) + 1 + 4) + 1) + 1 + 4) + 1 + 4) + 1 + 4) + 1 + 4) + 1 + 4) + 1 + 28) + 1 + 4) + 1) + 1) + 1) + 1) + 1 + 21) + 1) + 1) + 1) + 1) + 1 + 4))) dX10_init_271 hf (fun h271 H locs hf hR => ?_)
  refine lv_dup hx hb dX10_init_272 rfl ?_
  refine lv_iconst (v := (1 : Int32)) hx hb dX10_init_273 (by decide) ?_
  refine lv_bipush (v := (45 : Int32)) hx hb dX10_init_274 (by decide) ?_
  refine zr_cast X hR (r := (some ((((((((((((((((((((((((((((n + 1) + 1) + 1) + 1 + 4) + 1 + 4) + 1) + 1 + 28) + 1 + 28) + 1 + 4) + 1 + 4) + 1) + 1 + 4) + 1 + 4) + 1 + 4) + 1 + 4) + 1 + 4) + 1 + 28) + 1 + 4) + 1) + 1) + 1) + 1) + 1 + 21) + 1) + 1) + 1) + 1) + 1 + 4))) dX10_init_276 hf (fun h276 H locs hf hR => ?_)
  refine lv_dup hx hb dX10_init_277 rfl ?_
  refine lv_iconst (v := (2 : Int32)) hx hb dX10_init_278 (by decide) ?_
  refine lv_bipush (v := (45 : Int32)) hx hb dX10_init_279 (by decide) ?_
  refine zr_cast X hR (r := (some ((((((((((((((((((((((((((((n + 1) + 1) + 1) + 1 + 4) + 1 + 4) + 1) + 1 + 28) + 1 + 28) + 1 + 4) + 1 + 4) + 1) + 1 + 4) + 1 + 4) + 1 + 4) + 1 + 4) + 1 + 4) + 1 + 28) + 1 + 4) + 1) + 1) + 1) + 1) + 1 + 21) + 1) + 1) + 1) + 1) + 1 + 4))) dX10_init_281 hf (fun h281 H locs hf hR => ?_)
  refine lv_dup hx hb dX10_init_282 rfl ?_
  refine lv_iconst (v := (3 : Int32)) hx hb dX10_init_283 (by decide) ?_
  refine lv_bipush (v := (45 : Int32)) hx hb dX10_init_284 (by decide) ?_
  refine zr_cast X hR (r := (some ((((((((((((((((((((((((((((n + 1) + 1) + 1) + 1 + 4) + 1 + 4) + 1) + 1 + 28) + 1 + 28) + 1 + 4) + 1 + 4) + 1) + 1 + 4) + 1 + 4) + 1 + 4) + 1 + 4) + 1 + 4) + 1 + 28) + 1 + 4) + 1) + 1) + 1) + 1) + 1 + 21) + 1) + 1) + 1) + 1) + 1 + 4))) dX10_init_286 hf (fun h286 H locs hf hR => ?_)
  refine zr_pF X hR (r := (some a0)) (v := .ref ((((((((((((((((((((((((((((n + 1) + 1) + 1) + 1 + 4) + 1 + 4) + 1) + 1 + 28) + 1 + 28) + 1 + 4) + 1 + 4) + 1) + 1 + 4) + 1 + 4) + 1 + 4) + 1 + 4) + 1 + 4) + 1 + 28) + 1 + 4) + 1) + 1) + 1) + 1) + 1 + 21) + 1) + 1) + 1) + 1) + 1 + 4)) fl_X10_104 rfl hin rfl dX10_init_287 (zz_nr rfl (some ((((((((((((((((((((((((((((n + 1) + 1) + 1) + 1 + 4) + 1 + 4) + 1) + 1 + 28) + 1 + 28) + 1 + 4) + 1 + 4) + 1) + 1 + 4) + 1 + 4) + 1 + 4) + 1 + 4) + 1 + 4) + 1 + 28) + 1 + 4) + 1) + 1) + 1) + 1) + 1 + 21) + 1) + 1) + 1) + 1) + 1 + 4))).1 (zz_nr rfl (some ((((((((((((((((((((((((((((n + 1) + 1) + 1) + 1 + 4) + 1 + 4) + 1) + 1 + 28) + 1 + 28) + 1 + 4) + 1 + 4) + 1) + 1 + 4) + 1 + 4) + 1 + 4) + 1 + 4) + 1 + 4) + 1 + 28) + 1 + 4) + 1) + 1) + 1) + 1) + 1 + 21) + 1) + 1) + 1) + 1) + 1 + 4))).2 hf (fun h287 H locs hf hR => ?_)
  refine lv_aload_n hx hb dX10_init_290 rfl (lv_at hl 0 rfl) ?_
  refine lv_iconst (v := (4 : Int32)) hx hb dX10_init_291 (by decide) ?_
  refine zr_newa X hR (t := 0) (N := 4) (a0 := (4, .inl (fun _ => 0))) (by decide) rfl q_73 (fun _ z => z) (fun cA => rfl) (by decide) (by decide) (Nat.le_of_ble_eq_true rfl) (Nat.le_of_ble_eq_true rfl) (Nat.le_of_ble_eq_true rfl) dX10_init_292 (fun H hR => ?_)
  refine W.widen (k := 179) (n := 1013) (Nat.le_of_ble_eq_true rfl) (Nat.le_of_ble_eq_true rfl) ?_
  refine lv_dup hx hb dX10_init_294 rfl ?_
  refine lv_iconst (v := (0 : Int32)) hx hb dX10_init_295 (by decide) ?_
  refine lv_iconst (v := (4 : Int32)) hx hb dX10_init_296 (by decide) ?_
  refine zr_iast X hR (r := (some (((((((((((((((((((((((((((((n + 1) + 1) + 1) + 1 + 4) + 1 + 4) + 1) + 1 + 28) + 1 + 28) + 1 + 4) + 1 + 4) + 1) + 1 + 4) + 1 + 4) + 1 + 4) + 1 + 4) + 1 + 4) + 1 + 28) + 1 + 4) + 1) + 1) + 1) + 1) + 1 + 21) + 1) + 1) + 1) + 1) + 1 + 4) + 1))) dX10_init_297 hf (fun h297 H locs hf hR => ?_)
  refine lv_dup hx hb dX10_init_298 rfl ?_
  refine lv_iconst (v := (1 : Int32)) hx hb dX10_init_299 (by decide) ?_
  refine lv_iconst (v := (4 : Int32)) hx hb dX10_init_300 (by decide) ?_
  refine zr_iast X hR (r := (some (((((((((((((((((((((((((((((n + 1) + 1) + 1) + 1 + 4) + 1 + 4) + 1) + 1 + 28) + 1 + 28) + 1 + 4) + 1 + 4) + 1) + 1 + 4) + 1 + 4) + 1 + 4) + 1 + 4) + 1 + 4) + 1 + 28) + 1 + 4) + 1) + 1) + 1) + 1) + 1 + 21) + 1) + 1) + 1) + 1) + 1 + 4) + 1))) dX10_init_301 hf (fun h301 H locs hf hR => ?_)
  refine lv_dup hx hb dX10_init_302 rfl ?_
  refine lv_iconst (v := (2 : Int32)) hx hb dX10_init_303 (by decide) ?_
  refine lv_iconst (v := (4 : Int32)) hx hb dX10_init_304 (by decide) ?_
  refine zr_iast X hR (r := (some (((((((((((((((((((((((((((((n + 1) + 1) + 1) + 1 + 4) + 1 + 4) + 1) + 1 + 28) + 1 + 28) + 1 + 4) + 1 + 4) + 1) + 1 + 4) + 1 + 4) + 1 + 4) + 1 + 4) + 1 + 4) + 1 + 28) + 1 + 4) + 1) + 1) + 1) + 1) + 1 + 21) + 1) + 1) + 1) + 1) + 1 + 4) + 1))) dX10_init_305 hf (fun h305 H locs hf hR => ?_)
  refine lv_dup hx hb dX10_init_306 rfl ?_
  refine lv_iconst (v := (3 : Int32)) hx hb dX10_init_307 (by decide) ?_
  refine lv_iconst (v := (4 : Int32)) hx hb dX10_init_308 (by decide) ?_
  refine zr_iast X hR (r := (some (((((((((((((((((((((((((((((n + 1) + 1) + 1) + 1 + 4) + 1 + 4) + 1) + 1 + 28) + 1 + 28) + 1 + 4) + 1 + 4) + 1) + 1 + 4) + 1 + 4) + 1 + 4) + 1 + 4) + 1 + 4) + 1 + 28) + 1 + 4) + 1) + 1) + 1) + 1) + 1 + 21) + 1) + 1) + 1) + 1) + 1 + 4) + 1))) dX10_init_309 hf (fun h309 H locs hf hR => ?_)
  refine zr_pF X hR (r := (some a0)) (v := .ref (((((((((((((((((((((((((((((n + 1) + 1) + 1) + 1 + 4) + 1 + 4) + 1) + 1 + 28) + 1 + 28) + 1 + 4) + 1 + 4) + 1) + 1 + 4) + 1 + 4) + 1 + 4) + 1 + 4) + 1 + 4) + 1 + 28) + 1 + 4) + 1) + 1) + 1) + 1) + 1 + 21) + 1) + 1) + 1) + 1) + 1 + 4) + 1)) fl_X10_108 rfl hin rfl dX10_init_310 (zz_nr rfl (some (((((((((((((((((((((((((((((n + 1) + 1) + 1) + 1 + 4) + 1 + 4) + 1) + 1 + 28) + 1 + 28) + 1 + 4) + 1 + 4) + 1) + 1 + 4) + 1 + 4) + 1 + 4) + 1 + 4) + 1 + 4) + 1 + 28) + 1 + 4) + 1) + 1) + 1) + 1) + 1 + 21) + 1) + 1) + 1) + 1) + 1 + 4) + 1))).1 (zz_nr rfl (some (((((((((((((((((((((((((((((n + 1) + 1) + 1) + 1 + 4) + 1 + 4) + 1) + 1 + 28) + 1 + 28) + 1 + 4) + 1 + 4) + 1) + 1 + 4) + 1 + 4) + 1 + 4) + 1 + 4) + 1 + 4) + 1 + 28) + 1 + 4) + 1) + 1) + 1) + 1) + 1 + 21) + 1) + 1) + 1) + 1) + 1 + 4) + 1))).2 hf (fun h310 H locs hf hR => ?_)
  cases hf
  exact zr_vret X hR dX10_init_313 (Nat.le_of_ble_eq_true rfl) (Nat.le_of_ble_eq_true rfl)
def rm_L_seat : Room := { frames := 8, cells := 20, slots := 253, locals := 144 }
theorem mf_L_seat : Cond.codeWith yL_seat cL_seat 5 (some .int) [(0, 10, 13, 13), (0, 10, 17, 15)] ∈ zz_G ∧ Cond.initialized yL_seat.cls ∈ zz_G ∧ (yL_seat.cls ≠ "java/lang/invoke/MethodHandle" ∧ yL_seat.cls ≠ "java/lang/invoke/VarHandle" ∧ (parseMethodDescriptor yL_seat.desc).map (fun d => d.parameters.length) = some 4) := ⟨q_337, q_0, by decide +kernel, by decide +kernel, by decide +kernel⟩
set_option maxHeartbeats 4000000 in
set_option maxRecDepth 100000 in
theorem mt_L_seat {D : va_G} {dA : Nat → ClassId} {base t0 : Nat} {l : Launch} (hT : l.stackTraces = false) (x0 : Nat) (x1 : Int32) (x2 : Int32) (x3 : Nat) (h : zz_H) (n : Nat) {r0 : Int32} {hF : zz_H} {nF : Nat} (hf : f_L_seat t0 x0 x1 x2 x3 h n = some (r0, hF, nF)) : zz_ML D dA base t0 l yL_seat cL_seat 5 [(0, 10, 13, 13), (0, 10, 17, 15)] rm_L_seat [.ref x0, .int x1, .int x2, .ref x3] h n r0 hF nF := by
  refine zz_ofH (cc := cL_seat) (maxL := 5) (ret := some .int) (by decide +kernel) rfl ?_
  intro p e s m args below meth c s₁ B hml hE hv
  obtain ⟨rfl, hP, hK, hN⟩ := hv
  have X : zz_X D dA base t0 "SpringseatLaw" cL_seat 5 (some .int) l p s m meth c := ⟨B.exec, B.bytes, hml, B.returns, findClass_of_methodNamed B.named, B.notSynchronized, hT, by rw [hP.1]; exact hP.2.1, hK⟩
  have hx := X.1
  have hb := X.2.1
  have hown := X.2.2.2.2.1
  have hR : zz_R D dA base h n s s.heap [] := ⟨hP, va_S.rf⟩
  have hl := lv_entry ([.ref x0, .int x1, .int x2, .ref x3]) (n := 5) (by exact Nat.le_of_ble_eq_true rfl)
  rw [lg_entry_eq]
  generalize (lg_sl ([.ref x0, .int x1, .int x2, .ref x3]) ++ List.replicate (5 - (lg_sl ([.ref x0, .int x1, .int x2, .ref x3])).length) Slot.unset).toArray = ls at hl ⊢
  have hl : lv_has ls 5 [(0, .ref x0), (1, .int x1), (2, .int x2), (3, .ref x3)] := hl
  unfold f_L_seat at hf
  refine lv_aload_n hx hb dL_seat_0 rfl (lv_at hl 3 rfl) ?_
  refine lv_iconst (v := (0 : Int32)) hx hb dL_seat_1 (by decide) ?_
  refine lv_aload_n hx hb dL_seat_2 rfl (lv_at hl 0 rfl) ?_
  refine lv_iload_n hx hb dL_seat_3 rfl (lv_at hl 1 rfl) ?_
  refine lv_iload_n hx hb dL_seat_4 rfl (lv_at hl 2 rfl) ?_
  obtain ⟨fs5, ho5, hf⟩ := zz_obS_i hf
  rcases zz_th2_i hf with ⟨v5, h5, n5, hv5, hf⟩ | ⟨k5, h5, n5, hv5, hf⟩
  · refine zl_V X hR hl.1 (As := [.int x1, .int x2]) (rest := [.int (0 : Int32), .ref x3]) (C := RX9) (T := TX9) (N := 6) (ro := (fun v : Int32 => some (Value.int v)) v5) (mt_X9_seat hT x0 x1 x2 h n hv5) rfl ho5 mf_X9_seat q_340 q_341 q_342 ⟨Nat.le_of_ble_eq_true rfl, Nat.le_of_ble_eq_true rfl⟩ ⟨Nat.le_of_ble_eq_true rfl, Nat.le_of_ble_eq_true rfl⟩ rfl (Nat.le_of_ble_eq_true rfl) dL_seat_5 (fun H locs hR => ?_)
    refine W.eq (g2 := F0 m 8 ls [.int v5, .int (0 : Int32), .ref x3]) rfl ?_
    refine W.widen (k := 20) (n := 253) (Nat.le_of_ble_eq_true rfl) (Nat.le_of_ble_eq_true rfl) ?_
    refine lv_i2l hx hb dL_seat_8 rfl ?_
    refine zr_last X hR (r := (some x3)) dL_seat_9 hf (fun h9 H locs hf hR => ?_)
    refine lv_goto (tgt := 21) hx hb dL_seat_10 (by decide) ?_
    refine lv_iconst (v := (0 : Int32)) hx hb dL_seat_21 (by decide) ?_
    cases hf
    exact zl_iret X hR (Nat.le_refl _) dL_seat_22 (Nat.le_of_ble_eq_true rfl) (Nat.le_of_ble_eq_true rfl)
  · refine zl_X X hR hl.1 (As := [.int x1, .int x2]) (rest := [.int (0 : Int32), .ref x3]) (C := RX9) (T := TX9) (N := 6) (k := k5) (mt_X9_seat hT x0 x1 x2 h n hv5) rfl ho5 mf_X9_seat q_340 q_341 q_342 ⟨Nat.le_of_ble_eq_true rfl, Nat.le_of_ble_eq_true rfl⟩ ⟨Nat.le_of_ble_eq_true rfl, Nat.le_of_ble_eq_true rfl⟩ rfl (Nat.le_of_ble_eq_true rfl) dL_seat_5 (fun H locs nn ce qq hnn hR hce hcv hcl => ?_)
    by_cases ck : k5 = 0
    · subst ck
      replace hf := zz_pos rfl hf
      refine zl_catch X hN hE (k := 0) [] [(0, 10, 17, 15)] (0, 10, 13, 13) rfl (by decide) (fun z hz => nomatch hz) rfl (by decide) q_338 q_349 hce hcv hcl ?_
      refine lv_astore (i := 4) (lv' := [(4, .ref qq)]) hx hb dL_seat_13 (lv_sub hl [] rfl) (by decide) rfl (fun ls hl => ?_)
      refine lv_iconst (v := (1 : Int32)) hx hb dL_seat_15 (by decide) ?_
      cases hf
      exact zl_iret X hR hnn dL_seat_16 (Nat.le_of_ble_eq_true rfl) (Nat.le_of_ble_eq_true rfl)
    replace hf := zz_neg ck hf
    by_cases ck : k5 = 1
    · subst ck
      replace hf := zz_pos rfl hf
      refine zl_catch X hN hE (k := 1) [(0, 10, 13, 13)] [] (0, 10, 17, 15) rfl (by decide) (by intro z hz; simp only [List.mem_cons, List.not_mem_nil, or_false] at hz; rcases hz with rfl <;> first | exact ⟨by decide, 0, by decide, by decide, q_338⟩) rfl (by decide) q_339 q_422 hce hcv hcl ?_
      refine lv_astore (i := 4) (lv' := [(4, .ref qq)]) hx hb dL_seat_17 (lv_sub hl [] rfl) (by decide) rfl (fun ls hl => ?_)
      refine lv_iconst (v := (2 : Int32)) hx hb dL_seat_19 (by decide) ?_
      cases hf
      exact zl_iret X hR hnn dL_seat_20 (Nat.le_of_ble_eq_true rfl) (Nat.le_of_ble_eq_true rfl)
    replace hf := zz_neg ck hf
    cases hf
def rm_L_web : Room := { frames := 9, cells := 3, slots := 18, locals := 155 }
theorem mf_L_web : Cond.codeWith yL_web cL_web 5 (some .int) [(0, 10, 13, 20), (0, 10, 17, 13), (0, 10, 21, 22)] ∈ zz_G ∧ Cond.initialized yL_web.cls ∈ zz_G ∧ (yL_web.cls ≠ "java/lang/invoke/MethodHandle" ∧ yL_web.cls ≠ "java/lang/invoke/VarHandle" ∧ (parseMethodDescriptor yL_web.desc).map (fun d => d.parameters.length) = some 4) := ⟨q_575, q_0, by decide +kernel, by decide +kernel, by decide +kernel⟩
set_option maxHeartbeats 4000000 in
set_option maxRecDepth 100000 in
theorem mt_L_web {D : va_G} {dA : Nat → ClassId} {base t0 : Nat} {l : Launch} (hT : l.stackTraces = false) (x0 : Nat) (x1 : Int32) (x2 : Int32) (x3 : Nat) (h : zz_H) (n : Nat) {r0 : Int32} {hF : zz_H} {nF : Nat} (hf : f_L_web t0 x0 x1 x2 x3 h n = some (r0, hF, nF)) : zz_ML D dA base t0 l yL_web cL_web 5 [(0, 10, 13, 20), (0, 10, 17, 13), (0, 10, 21, 22)] rm_L_web [.ref x0, .int x1, .int x2, .ref x3] h n r0 hF nF := by
  refine zz_ofH (cc := cL_web) (maxL := 5) (ret := some .int) (by decide +kernel) rfl ?_
  intro p e s m args below meth c s₁ B hml hE hv
  obtain ⟨rfl, hP, hK, hN⟩ := hv
  have X : zz_X D dA base t0 "SpringseatLaw" cL_web 5 (some .int) l p s m meth c := ⟨B.exec, B.bytes, hml, B.returns, findClass_of_methodNamed B.named, B.notSynchronized, hT, by rw [hP.1]; exact hP.2.1, hK⟩
  have hx := X.1
  have hb := X.2.1
  have hown := X.2.2.2.2.1
  have hR : zz_R D dA base h n s s.heap [] := ⟨hP, va_S.rf⟩
  have hl := lv_entry ([.ref x0, .int x1, .int x2, .ref x3]) (n := 5) (by exact Nat.le_of_ble_eq_true rfl)
  rw [lg_entry_eq]
  generalize (lg_sl ([.ref x0, .int x1, .int x2, .ref x3]) ++ List.replicate (5 - (lg_sl ([.ref x0, .int x1, .int x2, .ref x3])).length) Slot.unset).toArray = ls at hl ⊢
  have hl : lv_has ls 5 [(0, .ref x0), (1, .int x1), (2, .int x2), (3, .ref x3)] := hl
  unfold f_L_web at hf
  refine lv_aload_n hx hb dL_web_0 rfl (lv_at hl 3 rfl) ?_
  refine lv_iconst (v := (0 : Int32)) hx hb dL_web_1 (by decide) ?_
  refine lv_aload_n hx hb dL_web_2 rfl (lv_at hl 0 rfl) ?_
  refine lv_iload_n hx hb dL_web_3 rfl (lv_at hl 1 rfl) ?_
  refine lv_iload_n hx hb dL_web_4 rfl (lv_at hl 2 rfl) ?_
  obtain ⟨fs5, ho5, hf⟩ := zz_obS_i hf
  rcases zz_th1_i hf with ⟨v5, h5, hv5, hf⟩ | ⟨k5, h5, hv5, hf⟩
  · refine zl_V X hR hl.1 (As := [.int x1, .int x2]) (rest := [.int (0 : Int32), .ref x3]) (C := RX9) (T := TX9) (N := 6) (ro := (fun v : Int32 => some (Value.int v)) v5) (mt_X9_web hT x0 x1 x2 h n hv5) rfl ho5 mf_X9_web q_578 q_579 q_580 ⟨Nat.le_of_ble_eq_true rfl, Nat.le_of_ble_eq_true rfl⟩ ⟨Nat.le_of_ble_eq_true rfl, Nat.le_of_ble_eq_true rfl⟩ rfl (Nat.le_of_ble_eq_true rfl) dL_web_5 (fun H locs hR => ?_)
    refine W.eq (g2 := F0 m 8 ls [.int v5, .int (0 : Int32), .ref x3]) rfl ?_
    refine W.widen (k := 3) (n := 18) (Nat.le_of_ble_eq_true rfl) (Nat.le_of_ble_eq_true rfl) ?_
    refine lv_i2l hx hb dL_web_8 rfl ?_
    refine zr_last X hR (r := (some x3)) dL_web_9 hf (fun h9 H locs hf hR => ?_)
    refine lv_goto (tgt := 25) hx hb dL_web_10 (by decide) ?_
    refine lv_iconst (v := (0 : Int32)) hx hb dL_web_25 (by decide) ?_
    cases hf
    exact zl_iret X hR (Nat.le_refl _) dL_web_26 (Nat.le_of_ble_eq_true rfl) (Nat.le_of_ble_eq_true rfl)
  · refine zl_X X hR hl.1 (As := [.int x1, .int x2]) (rest := [.int (0 : Int32), .ref x3]) (C := RX9) (T := TX9) (N := 6) (k := k5) (mt_X9_web hT x0 x1 x2 h n hv5) rfl ho5 mf_X9_web q_578 q_579 q_580 ⟨Nat.le_of_ble_eq_true rfl, Nat.le_of_ble_eq_true rfl⟩ ⟨Nat.le_of_ble_eq_true rfl, Nat.le_of_ble_eq_true rfl⟩ rfl (Nat.le_of_ble_eq_true rfl) dL_web_5 (fun H locs nn ce qq hnn hR hce hcv hcl => ?_)
    by_cases ck : k5 = 2
    · subst ck
      replace hf := zz_pos rfl hf
      refine zl_catch X hN hE (k := 2) [] [(0, 10, 17, 13), (0, 10, 21, 22)] (0, 10, 13, 20) rfl (by decide) (fun z hz => nomatch hz) rfl (by decide) q_576 q_591 hce hcv hcl ?_
      refine lv_astore (i := 4) (lv' := [(4, .ref qq)]) hx hb dL_web_13 (lv_sub hl [] rfl) (by decide) rfl (fun ls hl => ?_)
      refine lv_iconst (v := (1 : Int32)) hx hb dL_web_15 (by decide) ?_
      cases hf
      exact zl_iret X hR hnn dL_web_16 (Nat.le_of_ble_eq_true rfl) (Nat.le_of_ble_eq_true rfl)
    replace hf := zz_neg ck hf
    by_cases ck : k5 = 0
    · subst ck
      replace hf := zz_pos rfl hf
      refine zl_catch X hN hE (k := 0) [(0, 10, 13, 20)] [(0, 10, 21, 22)] (0, 10, 17, 13) rfl (by decide) (by intro z hz; simp only [List.mem_cons, List.not_mem_nil, or_false] at hz; rcases hz with rfl <;> first | exact ⟨by decide, 2, by decide, by decide, q_576⟩) rfl (by decide) q_338 q_349 hce hcv hcl ?_
      refine lv_astore (i := 4) (lv' := [(4, .ref qq)]) hx hb dL_web_17 (lv_sub hl [] rfl) (by decide) rfl (fun ls hl => ?_)
      refine lv_iconst (v := (2 : Int32)) hx hb dL_web_19 (by decide) ?_
      cases hf
      exact zl_iret X hR hnn dL_web_20 (Nat.le_of_ble_eq_true rfl) (Nat.le_of_ble_eq_true rfl)
    replace hf := zz_neg ck hf
    by_cases ck : k5 = 3
    · subst ck
      replace hf := zz_pos rfl hf
      refine zl_catch X hN hE (k := 3) [(0, 10, 13, 20), (0, 10, 17, 13)] [] (0, 10, 21, 22) rfl (by decide) (by intro z hz; simp only [List.mem_cons, List.not_mem_nil, or_false] at hz; rcases hz with rfl | rfl <;> first | exact ⟨by decide, 2, by decide, by decide, q_576⟩ | exact ⟨by decide, 0, by decide, by decide, q_338⟩) rfl (by decide) q_577 q_618 hce hcv hcl ?_
      refine lv_astore (i := 4) (lv' := [(4, .ref qq)]) hx hb dL_web_21 (lv_sub hl [] rfl) (by decide) rfl (fun ls hl => ?_)
      refine lv_iconst (v := (3 : Int32)) hx hb dL_web_23 (by decide) ?_
      cases hf
      exact zl_iret X hR hnn dL_web_24 (Nat.le_of_ble_eq_true rfl) (Nat.le_of_ble_eq_true rfl)
    replace hf := zz_neg ck hf
    cases hf
def rm_L_spring : Room := { frames := 9, cells := 4, slots := 24, locals := 156 }
theorem mf_L_spring : Cond.codeWith yL_spring cL_spring 6 (some .int) [(0, 12, 15, 20), (0, 12, 19, 13), (0, 12, 23, 22)] ∈ zz_G ∧ Cond.initialized yL_spring.cls ∈ zz_G ∧ (yL_spring.cls ≠ "java/lang/invoke/MethodHandle" ∧ yL_spring.cls ≠ "java/lang/invoke/VarHandle" ∧ (parseMethodDescriptor yL_spring.desc).map (fun d => d.parameters.length) = some 5) := ⟨q_638, q_0, by decide +kernel, by decide +kernel, by decide +kernel⟩
set_option maxHeartbeats 4000000 in
set_option maxRecDepth 100000 in
theorem mt_L_spring {D : va_G} {dA : Nat → ClassId} {base t0 : Nat} {l : Launch} (hT : l.stackTraces = false) (x0 : Nat) (x1 : Int32) (x2 : Int32) (x3 : Int32) (x4 : Nat) (h : zz_H) (n : Nat) {r0 : Int32} {hF : zz_H} {nF : Nat} (hf : f_L_spring t0 x0 x1 x2 x3 x4 h n = some (r0, hF, nF)) : zz_ML D dA base t0 l yL_spring cL_spring 6 [(0, 12, 15, 20), (0, 12, 19, 13), (0, 12, 23, 22)] rm_L_spring [.ref x0, .int x1, .int x2, .int x3, .ref x4] h n r0 hF nF := by
  refine zz_ofH (cc := cL_spring) (maxL := 6) (ret := some .int) (by decide +kernel) rfl ?_
  intro p e s m args below meth c s₁ B hml hE hv
  obtain ⟨rfl, hP, hK, hN⟩ := hv
  have X : zz_X D dA base t0 "SpringseatLaw" cL_spring 6 (some .int) l p s m meth c := ⟨B.exec, B.bytes, hml, B.returns, findClass_of_methodNamed B.named, B.notSynchronized, hT, by rw [hP.1]; exact hP.2.1, hK⟩
  have hx := X.1
  have hb := X.2.1
  have hown := X.2.2.2.2.1
  have hR : zz_R D dA base h n s s.heap [] := ⟨hP, va_S.rf⟩
  have hl := lv_entry ([.ref x0, .int x1, .int x2, .int x3, .ref x4]) (n := 6) (by exact Nat.le_of_ble_eq_true rfl)
  rw [lg_entry_eq]
  generalize (lg_sl ([.ref x0, .int x1, .int x2, .int x3, .ref x4]) ++ List.replicate (6 - (lg_sl ([.ref x0, .int x1, .int x2, .int x3, .ref x4])).length) Slot.unset).toArray = ls at hl ⊢
  have hl : lv_has ls 6 [(0, .ref x0), (1, .int x1), (2, .int x2), (3, .int x3), (4, .ref x4)] := hl
  unfold f_L_spring at hf
  refine lv_aload hx hb dL_spring_0 (lv_at hl 4 rfl) ?_
  refine lv_iconst (v := (0 : Int32)) hx hb dL_spring_2 (by decide) ?_
  refine lv_aload_n hx hb dL_spring_3 rfl (lv_at hl 0 rfl) ?_
  refine lv_iload_n hx hb dL_spring_4 rfl (lv_at hl 1 rfl) ?_
  refine lv_iload_n hx hb dL_spring_5 rfl (lv_at hl 2 rfl) ?_
  refine lv_iload_n hx hb dL_spring_6 rfl (lv_at hl 3 rfl) ?_
  obtain ⟨fs7, ho7, hf⟩ := zz_obS_i hf
  rcases zz_th1_i hf with ⟨v7, h7, hv7, hf⟩ | ⟨k7, h7, hv7, hf⟩
  · refine zl_V X hR hl.1 (As := [.int x1, .int x2, .int x3]) (rest := [.int (0 : Int32), .ref x4]) (C := RX9) (T := TX9) (N := 6) (ro := (fun v : Int32 => some (Value.int v)) v7) (mt_X9_spring hT x0 x1 x2 x3 h n hv7) rfl ho7 mf_X9_spring q_639 q_640 q_641 ⟨Nat.le_of_ble_eq_true rfl, Nat.le_of_ble_eq_true rfl⟩ ⟨Nat.le_of_ble_eq_true rfl, Nat.le_of_ble_eq_true rfl⟩ rfl (Nat.le_of_ble_eq_true rfl) dL_spring_7 (fun H locs hR => ?_)
    refine W.eq (g2 := F0 m 10 ls [.int v7, .int (0 : Int32), .ref x4]) rfl ?_
    refine W.widen (k := 4) (n := 24) (Nat.le_of_ble_eq_true rfl) (Nat.le_of_ble_eq_true rfl) ?_
    refine lv_i2l hx hb dL_spring_10 rfl ?_
    refine zr_last X hR (r := (some x4)) dL_spring_11 hf (fun h11 H locs hf hR => ?_)
    refine lv_goto (tgt := 27) hx hb dL_spring_12 (by decide) ?_
    refine lv_iconst (v := (0 : Int32)) hx hb dL_spring_27 (by decide) ?_
    cases hf
    exact zl_iret X hR (Nat.le_refl _) dL_spring_28 (Nat.le_of_ble_eq_true rfl) (Nat.le_of_ble_eq_true rfl)
  · refine zl_X X hR hl.1 (As := [.int x1, .int x2, .int x3]) (rest := [.int (0 : Int32), .ref x4]) (C := RX9) (T := TX9) (N := 6) (k := k7) (mt_X9_spring hT x0 x1 x2 x3 h n hv7) rfl ho7 mf_X9_spring q_639 q_640 q_641 ⟨Nat.le_of_ble_eq_true rfl, Nat.le_of_ble_eq_true rfl⟩ ⟨Nat.le_of_ble_eq_true rfl, Nat.le_of_ble_eq_true rfl⟩ rfl (Nat.le_of_ble_eq_true rfl) dL_spring_7 (fun H locs nn ce qq hnn hR hce hcv hcl => ?_)
    by_cases ck : k7 = 2
    · subst ck
      replace hf := zz_pos rfl hf
      refine zl_catch X hN hE (k := 2) [] [(0, 12, 19, 13), (0, 12, 23, 22)] (0, 12, 15, 20) rfl (by decide) (fun z hz => nomatch hz) rfl (by decide) q_576 q_591 hce hcv hcl ?_
      refine lv_astore (i := 5) (lv' := [(5, .ref qq)]) hx hb dL_spring_15 (lv_sub hl [] rfl) (by decide) rfl (fun ls hl => ?_)
      refine lv_iconst (v := (1 : Int32)) hx hb dL_spring_17 (by decide) ?_
      cases hf
      exact zl_iret X hR hnn dL_spring_18 (Nat.le_of_ble_eq_true rfl) (Nat.le_of_ble_eq_true rfl)
    replace hf := zz_neg ck hf
    by_cases ck : k7 = 0
    · subst ck
      replace hf := zz_pos rfl hf
      refine zl_catch X hN hE (k := 0) [(0, 12, 15, 20)] [(0, 12, 23, 22)] (0, 12, 19, 13) rfl (by decide) (by intro z hz; simp only [List.mem_cons, List.not_mem_nil, or_false] at hz; rcases hz with rfl <;> first | exact ⟨by decide, 2, by decide, by decide, q_576⟩) rfl (by decide) q_338 q_349 hce hcv hcl ?_
      refine lv_astore (i := 5) (lv' := [(5, .ref qq)]) hx hb dL_spring_19 (lv_sub hl [] rfl) (by decide) rfl (fun ls hl => ?_)
      refine lv_iconst (v := (2 : Int32)) hx hb dL_spring_21 (by decide) ?_
      cases hf
      exact zl_iret X hR hnn dL_spring_22 (Nat.le_of_ble_eq_true rfl) (Nat.le_of_ble_eq_true rfl)
    replace hf := zz_neg ck hf
    by_cases ck : k7 = 3
    · subst ck
      replace hf := zz_pos rfl hf
      refine zl_catch X hN hE (k := 3) [(0, 12, 15, 20), (0, 12, 19, 13)] [] (0, 12, 23, 22) rfl (by decide) (by intro z hz; simp only [List.mem_cons, List.not_mem_nil, or_false] at hz; rcases hz with rfl | rfl <;> first | exact ⟨by decide, 2, by decide, by decide, q_576⟩ | exact ⟨by decide, 0, by decide, by decide, q_338⟩) rfl (by decide) q_577 q_618 hce hcv hcl ?_
      refine lv_astore (i := 5) (lv' := [(5, .ref qq)]) hx hb dL_spring_23 (lv_sub hl [] rfl) (by decide) rfl (fun ls hl => ?_)
      refine lv_iconst (v := (3 : Int32)) hx hb dL_spring_25 (by decide) ?_
      cases hf
      exact zl_iret X hR hnn dL_spring_26 (Nat.le_of_ble_eq_true rfl) (Nat.le_of_ble_eq_true rfl)
    replace hf := zz_neg ck hf
    cases hf
def rm_L_change : Room := { frames := 10, cells := 6, slots := 36, locals := 180 }
theorem mf_L_change : Cond.codeWith yL_change cL_change 7 (some .int) [(0, 14, 17, 20), (0, 14, 21, 13), (0, 14, 25, 22)] ∈ zz_G ∧ Cond.initialized yL_change.cls ∈ zz_G ∧ (yL_change.cls ≠ "java/lang/invoke/MethodHandle" ∧ yL_change.cls ≠ "java/lang/invoke/VarHandle" ∧ (parseMethodDescriptor yL_change.desc).map (fun d => d.parameters.length) = some 6) := ⟨q_656, q_0, by decide +kernel, by decide +kernel, by decide +kernel⟩
set_option maxHeartbeats 4000000 in
set_option maxRecDepth 100000 in
theorem mt_L_change {D : va_G} {dA : Nat → ClassId} {base t0 : Nat} {l : Launch} (hT : l.stackTraces = false) (x0 : Nat) (x1 : Int32) (x2 : Int32) (x3 : Int32) (x4 : Int32) (x5 : Nat) (h : zz_H) (n : Nat) {r0 : Int32} {hF : zz_H} {nF : Nat} (hf : f_L_change t0 x0 x1 x2 x3 x4 x5 h n = some (r0, hF, nF)) : zz_ML D dA base t0 l yL_change cL_change 7 [(0, 14, 17, 20), (0, 14, 21, 13), (0, 14, 25, 22)] rm_L_change [.ref x0, .int x1, .int x2, .int x3, .int x4, .ref x5] h n r0 hF nF := by
  refine zz_ofH (cc := cL_change) (maxL := 7) (ret := some .int) (by decide +kernel) rfl ?_
  intro p e s m args below meth c s₁ B hml hE hv
  obtain ⟨rfl, hP, hK, hN⟩ := hv
  have X : zz_X D dA base t0 "SpringseatLaw" cL_change 7 (some .int) l p s m meth c := ⟨B.exec, B.bytes, hml, B.returns, findClass_of_methodNamed B.named, B.notSynchronized, hT, by rw [hP.1]; exact hP.2.1, hK⟩
  have hx := X.1
  have hb := X.2.1
  have hown := X.2.2.2.2.1
  have hR : zz_R D dA base h n s s.heap [] := ⟨hP, va_S.rf⟩
  have hl := lv_entry ([.ref x0, .int x1, .int x2, .int x3, .int x4, .ref x5]) (n := 7) (by exact Nat.le_of_ble_eq_true rfl)
  rw [lg_entry_eq]
  generalize (lg_sl ([.ref x0, .int x1, .int x2, .int x3, .int x4, .ref x5]) ++ List.replicate (7 - (lg_sl ([.ref x0, .int x1, .int x2, .int x3, .int x4, .ref x5])).length) Slot.unset).toArray = ls at hl ⊢
  have hl : lv_has ls 7 [(0, .ref x0), (1, .int x1), (2, .int x2), (3, .int x3), (4, .int x4), (5, .ref x5)] := hl
  unfold f_L_change at hf
  refine lv_aload hx hb dL_change_0 (lv_at hl 5 rfl) ?_
  refine lv_iconst (v := (0 : Int32)) hx hb dL_change_2 (by decide) ?_
  refine lv_aload_n hx hb dL_change_3 rfl (lv_at hl 0 rfl) ?_
  refine lv_iload_n hx hb dL_change_4 rfl (lv_at hl 1 rfl) ?_
  refine lv_iload_n hx hb dL_change_5 rfl (lv_at hl 2 rfl) ?_
  refine lv_iload_n hx hb dL_change_6 rfl (lv_at hl 3 rfl) ?_
  refine lv_iload hx hb dL_change_7 (lv_at hl 4 rfl) ?_
  obtain ⟨fs9, ho9, hf⟩ := zz_obS_i hf
  rcases zz_th1_i hf with ⟨v9, h9, hv9, hf⟩ | ⟨k9, h9, hv9, hf⟩
  · refine zl_V X hR hl.1 (As := [.int x1, .int x2, .int x3, .int x4]) (rest := [.int (0 : Int32), .ref x5]) (C := RX9) (T := TX9) (N := 6) (ro := (fun v : Int32 => some (Value.int v)) v9) (mt_X9_change hT x0 x1 x2 x3 x4 h n hv9) rfl ho9 mf_X9_change q_657 q_658 q_659 ⟨Nat.le_of_ble_eq_true rfl, Nat.le_of_ble_eq_true rfl⟩ ⟨Nat.le_of_ble_eq_true rfl, Nat.le_of_ble_eq_true rfl⟩ rfl (Nat.le_of_ble_eq_true rfl) dL_change_9 (fun H locs hR => ?_)
    refine W.eq (g2 := F0 m 12 ls [.int v9, .int (0 : Int32), .ref x5]) rfl ?_
    refine W.widen (k := 6) (n := 36) (Nat.le_of_ble_eq_true rfl) (Nat.le_of_ble_eq_true rfl) ?_
    refine lv_i2l hx hb dL_change_12 rfl ?_
    refine zr_last X hR (r := (some x5)) dL_change_13 hf (fun h13 H locs hf hR => ?_)
    refine lv_goto (tgt := 29) hx hb dL_change_14 (by decide) ?_
    refine lv_iconst (v := (0 : Int32)) hx hb dL_change_29 (by decide) ?_
    cases hf
    exact zl_iret X hR (Nat.le_refl _) dL_change_30 (Nat.le_of_ble_eq_true rfl) (Nat.le_of_ble_eq_true rfl)
  · refine zl_X X hR hl.1 (As := [.int x1, .int x2, .int x3, .int x4]) (rest := [.int (0 : Int32), .ref x5]) (C := RX9) (T := TX9) (N := 6) (k := k9) (mt_X9_change hT x0 x1 x2 x3 x4 h n hv9) rfl ho9 mf_X9_change q_657 q_658 q_659 ⟨Nat.le_of_ble_eq_true rfl, Nat.le_of_ble_eq_true rfl⟩ ⟨Nat.le_of_ble_eq_true rfl, Nat.le_of_ble_eq_true rfl⟩ rfl (Nat.le_of_ble_eq_true rfl) dL_change_9 (fun H locs nn ce qq hnn hR hce hcv hcl => ?_)
    by_cases ck : k9 = 2
    · subst ck
      replace hf := zz_pos rfl hf
      refine zl_catch X hN hE (k := 2) [] [(0, 14, 21, 13), (0, 14, 25, 22)] (0, 14, 17, 20) rfl (by decide) (fun z hz => nomatch hz) rfl (by decide) q_576 q_591 hce hcv hcl ?_
      refine lv_astore (i := 6) (lv' := [(6, .ref qq)]) hx hb dL_change_17 (lv_sub hl [] rfl) (by decide) rfl (fun ls hl => ?_)
      refine lv_iconst (v := (1 : Int32)) hx hb dL_change_19 (by decide) ?_
      cases hf
      exact zl_iret X hR hnn dL_change_20 (Nat.le_of_ble_eq_true rfl) (Nat.le_of_ble_eq_true rfl)
    replace hf := zz_neg ck hf
    by_cases ck : k9 = 0
    · subst ck
      replace hf := zz_pos rfl hf
      refine zl_catch X hN hE (k := 0) [(0, 14, 17, 20)] [(0, 14, 25, 22)] (0, 14, 21, 13) rfl (by decide) (by intro z hz; simp only [List.mem_cons, List.not_mem_nil, or_false] at hz; rcases hz with rfl <;> first | exact ⟨by decide, 2, by decide, by decide, q_576⟩) rfl (by decide) q_338 q_349 hce hcv hcl ?_
      refine lv_astore (i := 6) (lv' := [(6, .ref qq)]) hx hb dL_change_21 (lv_sub hl [] rfl) (by decide) rfl (fun ls hl => ?_)
      refine lv_iconst (v := (2 : Int32)) hx hb dL_change_23 (by decide) ?_
      cases hf
      exact zl_iret X hR hnn dL_change_24 (Nat.le_of_ble_eq_true rfl) (Nat.le_of_ble_eq_true rfl)
    replace hf := zz_neg ck hf
    by_cases ck : k9 = 3
    · subst ck
      replace hf := zz_pos rfl hf
      refine zl_catch X hN hE (k := 3) [(0, 14, 17, 20), (0, 14, 21, 13)] [] (0, 14, 25, 22) rfl (by decide) (by intro z hz; simp only [List.mem_cons, List.not_mem_nil, or_false] at hz; rcases hz with rfl | rfl <;> first | exact ⟨by decide, 2, by decide, by decide, q_576⟩ | exact ⟨by decide, 0, by decide, by decide, q_338⟩) rfl (by decide) q_577 q_618 hce hcv hcl ?_
      refine lv_astore (i := 6) (lv' := [(6, .ref qq)]) hx hb dL_change_25 (lv_sub hl [] rfl) (by decide) rfl (fun ls hl => ?_)
      refine lv_iconst (v := (3 : Int32)) hx hb dL_change_27 (by decide) ?_
      cases hf
      exact zl_iret X hR hnn dL_change_28 (Nat.le_of_ble_eq_true rfl) (Nat.le_of_ble_eq_true rfl)
    replace hf := zz_neg ck hf
    cases hf
def rm_L_tie : Room := { frames := 9, cells := 2, slots := 12, locals := 154 }
theorem mf_L_tie : Cond.codeWith yL_tie cL_tie 4 (some .int) [(0, 9, 12, 20), (0, 9, 15, 22)] ∈ zz_G ∧ Cond.initialized yL_tie.cls ∈ zz_G ∧ (yL_tie.cls ≠ "java/lang/invoke/MethodHandle" ∧ yL_tie.cls ≠ "java/lang/invoke/VarHandle" ∧ (parseMethodDescriptor yL_tie.desc).map (fun d => d.parameters.length) = some 3) := ⟨q_680, q_0, by decide +kernel, by decide +kernel, by decide +kernel⟩
set_option maxHeartbeats 4000000 in
set_option maxRecDepth 100000 in
theorem mt_L_tie {D : va_G} {dA : Nat → ClassId} {base t0 : Nat} {l : Launch} (hT : l.stackTraces = false) (x0 : Nat) (x1 : Int32) (x2 : Nat) (h : zz_H) (n : Nat) {r0 : Int32} {hF : zz_H} {nF : Nat} (hf : f_L_tie t0 x0 x1 x2 h n = some (r0, hF, nF)) : zz_ML D dA base t0 l yL_tie cL_tie 4 [(0, 9, 12, 20), (0, 9, 15, 22)] rm_L_tie [.ref x0, .int x1, .ref x2] h n r0 hF nF := by
  refine zz_ofH (cc := cL_tie) (maxL := 4) (ret := some .int) (by decide +kernel) rfl ?_
  intro p e s m args below meth c s₁ B hml hE hv
  obtain ⟨rfl, hP, hK, hN⟩ := hv
  have X : zz_X D dA base t0 "SpringseatLaw" cL_tie 4 (some .int) l p s m meth c := ⟨B.exec, B.bytes, hml, B.returns, findClass_of_methodNamed B.named, B.notSynchronized, hT, by rw [hP.1]; exact hP.2.1, hK⟩
  have hx := X.1
  have hb := X.2.1
  have hown := X.2.2.2.2.1
  have hR : zz_R D dA base h n s s.heap [] := ⟨hP, va_S.rf⟩
  have hl := lv_entry ([.ref x0, .int x1, .ref x2]) (n := 4) (by exact Nat.le_of_ble_eq_true rfl)
  rw [lg_entry_eq]
  generalize (lg_sl ([.ref x0, .int x1, .ref x2]) ++ List.replicate (4 - (lg_sl ([.ref x0, .int x1, .ref x2])).length) Slot.unset).toArray = ls at hl ⊢
  have hl : lv_has ls 4 [(0, .ref x0), (1, .int x1), (2, .ref x2)] := hl
  unfold f_L_tie at hf
  refine lv_aload_n hx hb dL_tie_0 rfl (lv_at hl 2 rfl) ?_
  refine lv_iconst (v := (0 : Int32)) hx hb dL_tie_1 (by decide) ?_
  refine lv_aload_n hx hb dL_tie_2 rfl (lv_at hl 0 rfl) ?_
  refine lv_iload_n hx hb dL_tie_3 rfl (lv_at hl 1 rfl) ?_
  obtain ⟨fs4, ho4, hf⟩ := zz_obS_i hf
  rcases zz_th1_i hf with ⟨v4, h4, hv4, hf⟩ | ⟨k4, h4, hv4, hf⟩
  · refine zl_V X hR hl.1 (As := [.int x1]) (rest := [.int (0 : Int32), .ref x2]) (C := RX9) (T := TX9) (N := 6) (ro := (fun v : Int32 => some (Value.int v)) v4) (mt_X9_tie hT x0 x1 h n hv4) rfl ho4 mf_X9_tie q_681 q_682 q_683 ⟨Nat.le_of_ble_eq_true rfl, Nat.le_of_ble_eq_true rfl⟩ ⟨Nat.le_of_ble_eq_true rfl, Nat.le_of_ble_eq_true rfl⟩ rfl (Nat.le_of_ble_eq_true rfl) dL_tie_4 (fun H locs hR => ?_)
    refine W.eq (g2 := F0 m 7 ls [.int v4, .int (0 : Int32), .ref x2]) rfl ?_
    refine W.widen (k := 2) (n := 12) (Nat.le_of_ble_eq_true rfl) (Nat.le_of_ble_eq_true rfl) ?_
    refine lv_i2l hx hb dL_tie_7 rfl ?_
    refine zr_last X hR (r := (some x2)) dL_tie_8 hf (fun h8 H locs hf hR => ?_)
    refine lv_goto (tgt := 18) hx hb dL_tie_9 (by decide) ?_
    refine lv_iconst (v := (0 : Int32)) hx hb dL_tie_18 (by decide) ?_
    cases hf
    exact zl_iret X hR (Nat.le_refl _) dL_tie_19 (Nat.le_of_ble_eq_true rfl) (Nat.le_of_ble_eq_true rfl)
  · refine zl_X X hR hl.1 (As := [.int x1]) (rest := [.int (0 : Int32), .ref x2]) (C := RX9) (T := TX9) (N := 6) (k := k4) (mt_X9_tie hT x0 x1 h n hv4) rfl ho4 mf_X9_tie q_681 q_682 q_683 ⟨Nat.le_of_ble_eq_true rfl, Nat.le_of_ble_eq_true rfl⟩ ⟨Nat.le_of_ble_eq_true rfl, Nat.le_of_ble_eq_true rfl⟩ rfl (Nat.le_of_ble_eq_true rfl) dL_tie_4 (fun H locs nn ce qq hnn hR hce hcv hcl => ?_)
    by_cases ck : k4 = 2
    · subst ck
      replace hf := zz_pos rfl hf
      refine zl_catch X hN hE (k := 2) [] [(0, 9, 15, 22)] (0, 9, 12, 20) rfl (by decide) (fun z hz => nomatch hz) rfl (by decide) q_576 q_591 hce hcv hcl ?_
      refine lv_astore_n (i := 3) (lv' := [(3, .ref qq)]) hx hb dL_tie_12 rfl (lv_sub hl [] rfl) (by decide) rfl (fun ls hl => ?_)
      refine lv_iconst (v := (1 : Int32)) hx hb dL_tie_13 (by decide) ?_
      cases hf
      exact zl_iret X hR hnn dL_tie_14 (Nat.le_of_ble_eq_true rfl) (Nat.le_of_ble_eq_true rfl)
    replace hf := zz_neg ck hf
    by_cases ck : k4 = 3
    · subst ck
      replace hf := zz_pos rfl hf
      refine zl_catch X hN hE (k := 3) [(0, 9, 12, 20)] [] (0, 9, 15, 22) rfl (by decide) (by intro z hz; simp only [List.mem_cons, List.not_mem_nil, or_false] at hz; rcases hz with rfl <;> first | exact ⟨by decide, 2, by decide, by decide, q_576⟩) rfl (by decide) q_577 q_618 hce hcv hcl ?_
      refine lv_astore_n (i := 3) (lv' := [(3, .ref qq)]) hx hb dL_tie_15 rfl (lv_sub hl [] rfl) (by decide) rfl (fun ls hl => ?_)
      refine lv_iconst (v := (2 : Int32)) hx hb dL_tie_16 (by decide) ?_
      cases hf
      exact zl_iret X hR hnn dL_tie_17 (Nat.le_of_ble_eq_true rfl) (Nat.le_of_ble_eq_true rfl)
    replace hf := zz_neg ck hf
    cases hf
def rm_L_pull : Room := { frames := 9, cells := 4, slots := 24, locals := 158 }
theorem mf_L_pull : Cond.codeWith yL_pull cL_pull 7 (some .int) [(0, 14, 17, 20), (0, 14, 21, 13), (0, 14, 25, 22)] ∈ zz_G ∧ Cond.initialized yL_pull.cls ∈ zz_G ∧ (yL_pull.cls ≠ "java/lang/invoke/MethodHandle" ∧ yL_pull.cls ≠ "java/lang/invoke/VarHandle" ∧ (parseMethodDescriptor yL_pull.desc).map (fun d => d.parameters.length) = some 6) := ⟨q_687, q_0, by decide +kernel, by decide +kernel, by decide +kernel⟩
set_option maxHeartbeats 4000000 in
set_option maxRecDepth 100000 in
theorem mt_L_pull {D : va_G} {dA : Nat → ClassId} {base t0 : Nat} {l : Launch} (hT : l.stackTraces = false) (x0 : Nat) (x1 : Int32) (x2 : Int32) (x3 : Int32) (x4 : Int32) (x5 : Nat) (h : zz_H) (n : Nat) {r0 : Int32} {hF : zz_H} {nF : Nat} (hf : f_L_pull t0 x0 x1 x2 x3 x4 x5 h n = some (r0, hF, nF)) : zz_ML D dA base t0 l yL_pull cL_pull 7 [(0, 14, 17, 20), (0, 14, 21, 13), (0, 14, 25, 22)] rm_L_pull [.ref x0, .int x1, .int x2, .int x3, .int x4, .ref x5] h n r0 hF nF := by
  refine zz_ofH (cc := cL_pull) (maxL := 7) (ret := some .int) (by decide +kernel) rfl ?_
  intro p e s m args below meth c s₁ B hml hE hv
  obtain ⟨rfl, hP, hK, hN⟩ := hv
  have X : zz_X D dA base t0 "SpringseatLaw" cL_pull 7 (some .int) l p s m meth c := ⟨B.exec, B.bytes, hml, B.returns, findClass_of_methodNamed B.named, B.notSynchronized, hT, by rw [hP.1]; exact hP.2.1, hK⟩
  have hx := X.1
  have hb := X.2.1
  have hown := X.2.2.2.2.1
  have hR : zz_R D dA base h n s s.heap [] := ⟨hP, va_S.rf⟩
  have hl := lv_entry ([.ref x0, .int x1, .int x2, .int x3, .int x4, .ref x5]) (n := 7) (by exact Nat.le_of_ble_eq_true rfl)
  rw [lg_entry_eq]
  generalize (lg_sl ([.ref x0, .int x1, .int x2, .int x3, .int x4, .ref x5]) ++ List.replicate (7 - (lg_sl ([.ref x0, .int x1, .int x2, .int x3, .int x4, .ref x5])).length) Slot.unset).toArray = ls at hl ⊢
  have hl : lv_has ls 7 [(0, .ref x0), (1, .int x1), (2, .int x2), (3, .int x3), (4, .int x4), (5, .ref x5)] := hl
  unfold f_L_pull at hf
  refine lv_aload hx hb dL_pull_0 (lv_at hl 5 rfl) ?_
  refine lv_iconst (v := (0 : Int32)) hx hb dL_pull_2 (by decide) ?_
  refine lv_aload_n hx hb dL_pull_3 rfl (lv_at hl 0 rfl) ?_
  refine lv_iload_n hx hb dL_pull_4 rfl (lv_at hl 1 rfl) ?_
  refine lv_iload_n hx hb dL_pull_5 rfl (lv_at hl 2 rfl) ?_
  refine lv_iload_n hx hb dL_pull_6 rfl (lv_at hl 3 rfl) ?_
  refine lv_iload hx hb dL_pull_7 (lv_at hl 4 rfl) ?_
  obtain ⟨fs9, ho9, hf⟩ := zz_obS_i hf
  rcases zz_th1_i hf with ⟨v9, h9, hv9, hf⟩ | ⟨k9, h9, hv9, hf⟩
  · refine zl_V X hR hl.1 (As := [.int x1, .int x2, .int x3, .int x4]) (rest := [.int (0 : Int32), .ref x5]) (C := RX9) (T := TX9) (N := 6) (ro := (fun v : Int32 => some (Value.int v)) v9) (mt_X9_pull hT x0 x1 x2 x3 x4 h n hv9) rfl ho9 mf_X9_pull q_688 q_689 q_690 ⟨Nat.le_of_ble_eq_true rfl, Nat.le_of_ble_eq_true rfl⟩ ⟨Nat.le_of_ble_eq_true rfl, Nat.le_of_ble_eq_true rfl⟩ rfl (Nat.le_of_ble_eq_true rfl) dL_pull_9 (fun H locs hR => ?_)
    refine W.eq (g2 := F0 m 12 ls [.int v9, .int (0 : Int32), .ref x5]) rfl ?_
    refine W.widen (k := 4) (n := 24) (Nat.le_of_ble_eq_true rfl) (Nat.le_of_ble_eq_true rfl) ?_
    refine lv_i2l hx hb dL_pull_12 rfl ?_
    refine zr_last X hR (r := (some x5)) dL_pull_13 hf (fun h13 H locs hf hR => ?_)
    refine lv_goto (tgt := 29) hx hb dL_pull_14 (by decide) ?_
    refine lv_iconst (v := (0 : Int32)) hx hb dL_pull_29 (by decide) ?_
    cases hf
    exact zl_iret X hR (Nat.le_refl _) dL_pull_30 (Nat.le_of_ble_eq_true rfl) (Nat.le_of_ble_eq_true rfl)
  · refine zl_X X hR hl.1 (As := [.int x1, .int x2, .int x3, .int x4]) (rest := [.int (0 : Int32), .ref x5]) (C := RX9) (T := TX9) (N := 6) (k := k9) (mt_X9_pull hT x0 x1 x2 x3 x4 h n hv9) rfl ho9 mf_X9_pull q_688 q_689 q_690 ⟨Nat.le_of_ble_eq_true rfl, Nat.le_of_ble_eq_true rfl⟩ ⟨Nat.le_of_ble_eq_true rfl, Nat.le_of_ble_eq_true rfl⟩ rfl (Nat.le_of_ble_eq_true rfl) dL_pull_9 (fun H locs nn ce qq hnn hR hce hcv hcl => ?_)
    by_cases ck : k9 = 2
    · subst ck
      replace hf := zz_pos rfl hf
      refine zl_catch X hN hE (k := 2) [] [(0, 14, 21, 13), (0, 14, 25, 22)] (0, 14, 17, 20) rfl (by decide) (fun z hz => nomatch hz) rfl (by decide) q_576 q_591 hce hcv hcl ?_
      refine lv_astore (i := 6) (lv' := [(6, .ref qq)]) hx hb dL_pull_17 (lv_sub hl [] rfl) (by decide) rfl (fun ls hl => ?_)
      refine lv_iconst (v := (1 : Int32)) hx hb dL_pull_19 (by decide) ?_
      cases hf
      exact zl_iret X hR hnn dL_pull_20 (Nat.le_of_ble_eq_true rfl) (Nat.le_of_ble_eq_true rfl)
    replace hf := zz_neg ck hf
    by_cases ck : k9 = 0
    · subst ck
      replace hf := zz_pos rfl hf
      refine zl_catch X hN hE (k := 0) [(0, 14, 17, 20)] [(0, 14, 25, 22)] (0, 14, 21, 13) rfl (by decide) (by intro z hz; simp only [List.mem_cons, List.not_mem_nil, or_false] at hz; rcases hz with rfl <;> first | exact ⟨by decide, 2, by decide, by decide, q_576⟩) rfl (by decide) q_338 q_349 hce hcv hcl ?_
      refine lv_astore (i := 6) (lv' := [(6, .ref qq)]) hx hb dL_pull_21 (lv_sub hl [] rfl) (by decide) rfl (fun ls hl => ?_)
      refine lv_iconst (v := (2 : Int32)) hx hb dL_pull_23 (by decide) ?_
      cases hf
      exact zl_iret X hR hnn dL_pull_24 (Nat.le_of_ble_eq_true rfl) (Nat.le_of_ble_eq_true rfl)
    replace hf := zz_neg ck hf
    by_cases ck : k9 = 3
    · subst ck
      replace hf := zz_pos rfl hf
      refine zl_catch X hN hE (k := 3) [(0, 14, 17, 20), (0, 14, 21, 13)] [] (0, 14, 25, 22) rfl (by decide) (by intro z hz; simp only [List.mem_cons, List.not_mem_nil, or_false] at hz; rcases hz with rfl | rfl <;> first | exact ⟨by decide, 2, by decide, by decide, q_576⟩ | exact ⟨by decide, 0, by decide, by decide, q_338⟩) rfl (by decide) q_577 q_618 hce hcv hcl ?_
      refine lv_astore (i := 6) (lv' := [(6, .ref qq)]) hx hb dL_pull_25 (lv_sub hl [] rfl) (by decide) rfl (fun ls hl => ?_)
      refine lv_iconst (v := (3 : Int32)) hx hb dL_pull_27 (by decide) ?_
      cases hf
      exact zl_iret X hR hnn dL_pull_28 (Nat.le_of_ble_eq_true rfl) (Nat.le_of_ble_eq_true rfl)
    replace hf := zz_neg ck hf
    cases hf
def rm_L_layer : Room := { frames := 9, cells := 7, slots := 46, locals := 157 }
theorem mf_L_layer : Cond.codeWith yL_layer cL_layer 7 (some .int) [(0, 14, 17, 20), (0, 14, 21, 13), (0, 14, 25, 22)] ∈ zz_G ∧ Cond.initialized yL_layer.cls ∈ zz_G ∧ (yL_layer.cls ≠ "java/lang/invoke/MethodHandle" ∧ yL_layer.cls ≠ "java/lang/invoke/VarHandle" ∧ (parseMethodDescriptor yL_layer.desc).map (fun d => d.parameters.length) = some 6) := ⟨q_703, q_0, by decide +kernel, by decide +kernel, by decide +kernel⟩
set_option maxHeartbeats 4000000 in
set_option maxRecDepth 100000 in
theorem mt_L_layer {D : va_G} {dA : Nat → ClassId} {base t0 : Nat} {l : Launch} (hT : l.stackTraces = false) (x0 : Nat) (x1 : Int32) (x2 : Int32) (x3 : Int32) (x4 : Int32) (x5 : Nat) (h : zz_H) (n : Nat) {r0 : Int32} {hF : zz_H} {nF : Nat} (hf : f_L_layer t0 x0 x1 x2 x3 x4 x5 h n = some (r0, hF, nF)) : zz_ML D dA base t0 l yL_layer cL_layer 7 [(0, 14, 17, 20), (0, 14, 21, 13), (0, 14, 25, 22)] rm_L_layer [.ref x0, .int x1, .int x2, .int x3, .int x4, .ref x5] h n r0 hF nF := by
  refine zz_ofH (cc := cL_layer) (maxL := 7) (ret := some .int) (by decide +kernel) rfl ?_
  intro p e s m args below meth c s₁ B hml hE hv
  obtain ⟨rfl, hP, hK, hN⟩ := hv
  have X : zz_X D dA base t0 "SpringseatLaw" cL_layer 7 (some .int) l p s m meth c := ⟨B.exec, B.bytes, hml, B.returns, findClass_of_methodNamed B.named, B.notSynchronized, hT, by rw [hP.1]; exact hP.2.1, hK⟩
  have hx := X.1
  have hb := X.2.1
  have hown := X.2.2.2.2.1
  have hR : zz_R D dA base h n s s.heap [] := ⟨hP, va_S.rf⟩
  have hl := lv_entry ([.ref x0, .int x1, .int x2, .int x3, .int x4, .ref x5]) (n := 7) (by exact Nat.le_of_ble_eq_true rfl)
  rw [lg_entry_eq]
  generalize (lg_sl ([.ref x0, .int x1, .int x2, .int x3, .int x4, .ref x5]) ++ List.replicate (7 - (lg_sl ([.ref x0, .int x1, .int x2, .int x3, .int x4, .ref x5])).length) Slot.unset).toArray = ls at hl ⊢
  have hl : lv_has ls 7 [(0, .ref x0), (1, .int x1), (2, .int x2), (3, .int x3), (4, .int x4), (5, .ref x5)] := hl
  unfold f_L_layer at hf
  refine lv_aload hx hb dL_layer_0 (lv_at hl 5 rfl) ?_
  refine lv_iconst (v := (0 : Int32)) hx hb dL_layer_2 (by decide) ?_
  refine lv_aload_n hx hb dL_layer_3 rfl (lv_at hl 0 rfl) ?_
  refine lv_iload_n hx hb dL_layer_4 rfl (lv_at hl 1 rfl) ?_
  refine lv_iload_n hx hb dL_layer_5 rfl (lv_at hl 2 rfl) ?_
  refine lv_iload_n hx hb dL_layer_6 rfl (lv_at hl 3 rfl) ?_
  refine lv_iload hx hb dL_layer_7 (lv_at hl 4 rfl) ?_
  obtain ⟨fs9, ho9, hf⟩ := zz_obS_i hf
  rcases zz_th2_i hf with ⟨v9, h9, n9, hv9, hf⟩ | ⟨k9, h9, n9, hv9, hf⟩
  · refine zl_V X hR hl.1 (As := [.int x1, .int x2, .int x3, .int x4]) (rest := [.int (0 : Int32), .ref x5]) (C := RX9) (T := TX9) (N := 6) (ro := (fun v : Int32 => some (Value.int v)) v9) (mt_X9_layer hT x0 x1 x2 x3 x4 h n hv9) rfl ho9 mf_X9_layer q_704 q_705 q_706 ⟨Nat.le_of_ble_eq_true rfl, Nat.le_of_ble_eq_true rfl⟩ ⟨Nat.le_of_ble_eq_true rfl, Nat.le_of_ble_eq_true rfl⟩ rfl (Nat.le_of_ble_eq_true rfl) dL_layer_9 (fun H locs hR => ?_)
    refine W.eq (g2 := F0 m 12 ls [.int v9, .int (0 : Int32), .ref x5]) rfl ?_
    refine W.widen (k := 7) (n := 46) (Nat.le_of_ble_eq_true rfl) (Nat.le_of_ble_eq_true rfl) ?_
    refine lv_i2l hx hb dL_layer_12 rfl ?_
    refine zr_last X hR (r := (some x5)) dL_layer_13 hf (fun h13 H locs hf hR => ?_)
    refine lv_goto (tgt := 29) hx hb dL_layer_14 (by decide) ?_
    refine lv_iconst (v := (0 : Int32)) hx hb dL_layer_29 (by decide) ?_
    cases hf
    exact zl_iret X hR (Nat.le_refl _) dL_layer_30 (Nat.le_of_ble_eq_true rfl) (Nat.le_of_ble_eq_true rfl)
  · refine zl_X X hR hl.1 (As := [.int x1, .int x2, .int x3, .int x4]) (rest := [.int (0 : Int32), .ref x5]) (C := RX9) (T := TX9) (N := 6) (k := k9) (mt_X9_layer hT x0 x1 x2 x3 x4 h n hv9) rfl ho9 mf_X9_layer q_704 q_705 q_706 ⟨Nat.le_of_ble_eq_true rfl, Nat.le_of_ble_eq_true rfl⟩ ⟨Nat.le_of_ble_eq_true rfl, Nat.le_of_ble_eq_true rfl⟩ rfl (Nat.le_of_ble_eq_true rfl) dL_layer_9 (fun H locs nn ce qq hnn hR hce hcv hcl => ?_)
    by_cases ck : k9 = 2
    · subst ck
      replace hf := zz_pos rfl hf
      refine zl_catch X hN hE (k := 2) [] [(0, 14, 21, 13), (0, 14, 25, 22)] (0, 14, 17, 20) rfl (by decide) (fun z hz => nomatch hz) rfl (by decide) q_576 q_591 hce hcv hcl ?_
      refine lv_astore (i := 6) (lv' := [(6, .ref qq)]) hx hb dL_layer_17 (lv_sub hl [] rfl) (by decide) rfl (fun ls hl => ?_)
      refine lv_iconst (v := (1 : Int32)) hx hb dL_layer_19 (by decide) ?_
      cases hf
      exact zl_iret X hR hnn dL_layer_20 (Nat.le_of_ble_eq_true rfl) (Nat.le_of_ble_eq_true rfl)
    replace hf := zz_neg ck hf
    by_cases ck : k9 = 0
    · subst ck
      replace hf := zz_pos rfl hf
      refine zl_catch X hN hE (k := 0) [(0, 14, 17, 20)] [(0, 14, 25, 22)] (0, 14, 21, 13) rfl (by decide) (by intro z hz; simp only [List.mem_cons, List.not_mem_nil, or_false] at hz; rcases hz with rfl <;> first | exact ⟨by decide, 2, by decide, by decide, q_576⟩) rfl (by decide) q_338 q_349 hce hcv hcl ?_
      refine lv_astore (i := 6) (lv' := [(6, .ref qq)]) hx hb dL_layer_21 (lv_sub hl [] rfl) (by decide) rfl (fun ls hl => ?_)
      refine lv_iconst (v := (2 : Int32)) hx hb dL_layer_23 (by decide) ?_
      cases hf
      exact zl_iret X hR hnn dL_layer_24 (Nat.le_of_ble_eq_true rfl) (Nat.le_of_ble_eq_true rfl)
    replace hf := zz_neg ck hf
    by_cases ck : k9 = 3
    · subst ck
      replace hf := zz_pos rfl hf
      refine zl_catch X hN hE (k := 3) [(0, 14, 17, 20), (0, 14, 21, 13)] [] (0, 14, 25, 22) rfl (by decide) (by intro z hz; simp only [List.mem_cons, List.not_mem_nil, or_false] at hz; rcases hz with rfl | rfl <;> first | exact ⟨by decide, 2, by decide, by decide, q_576⟩ | exact ⟨by decide, 0, by decide, by decide, q_338⟩) rfl (by decide) q_577 q_618 hce hcv hcl ?_
      refine lv_astore (i := 6) (lv' := [(6, .ref qq)]) hx hb dL_layer_25 (lv_sub hl [] rfl) (by decide) rfl (fun ls hl => ?_)
      refine lv_iconst (v := (3 : Int32)) hx hb dL_layer_27 (by decide) ?_
      cases hf
      exact zl_iret X hR hnn dL_layer_28 (Nat.le_of_ble_eq_true rfl) (Nat.le_of_ble_eq_true rfl)
    replace hf := zz_neg ck hf
    cases hf
def rm_L_buttons : Room := { frames := 9, cells := 2, slots := 12, locals := 154 }
theorem mf_L_buttons : Cond.codeWith yL_buttons cL_buttons 4 (some .int) [(0, 9, 12, 20), (0, 9, 15, 22)] ∈ zz_G ∧ Cond.initialized yL_buttons.cls ∈ zz_G ∧ (yL_buttons.cls ≠ "java/lang/invoke/MethodHandle" ∧ yL_buttons.cls ≠ "java/lang/invoke/VarHandle" ∧ (parseMethodDescriptor yL_buttons.desc).map (fun d => d.parameters.length) = some 3) := ⟨q_748, q_0, by decide +kernel, by decide +kernel, by decide +kernel⟩
set_option maxHeartbeats 4000000 in
set_option maxRecDepth 100000 in
theorem mt_L_buttons {D : va_G} {dA : Nat → ClassId} {base t0 : Nat} {l : Launch} (hT : l.stackTraces = false) (x0 : Nat) (x1 : Int32) (x2 : Nat) (h : zz_H) (n : Nat) {r0 : Int32} {hF : zz_H} {nF : Nat} (hf : f_L_buttons t0 x0 x1 x2 h n = some (r0, hF, nF)) : zz_ML D dA base t0 l yL_buttons cL_buttons 4 [(0, 9, 12, 20), (0, 9, 15, 22)] rm_L_buttons [.ref x0, .int x1, .ref x2] h n r0 hF nF := by
  refine zz_ofH (cc := cL_buttons) (maxL := 4) (ret := some .int) (by decide +kernel) rfl ?_
  intro p e s m args below meth c s₁ B hml hE hv
  obtain ⟨rfl, hP, hK, hN⟩ := hv
  have X : zz_X D dA base t0 "SpringseatLaw" cL_buttons 4 (some .int) l p s m meth c := ⟨B.exec, B.bytes, hml, B.returns, findClass_of_methodNamed B.named, B.notSynchronized, hT, by rw [hP.1]; exact hP.2.1, hK⟩
  have hx := X.1
  have hb := X.2.1
  have hown := X.2.2.2.2.1
  have hR : zz_R D dA base h n s s.heap [] := ⟨hP, va_S.rf⟩
  have hl := lv_entry ([.ref x0, .int x1, .ref x2]) (n := 4) (by exact Nat.le_of_ble_eq_true rfl)
  rw [lg_entry_eq]
  generalize (lg_sl ([.ref x0, .int x1, .ref x2]) ++ List.replicate (4 - (lg_sl ([.ref x0, .int x1, .ref x2])).length) Slot.unset).toArray = ls at hl ⊢
  have hl : lv_has ls 4 [(0, .ref x0), (1, .int x1), (2, .ref x2)] := hl
  unfold f_L_buttons at hf
  refine lv_aload_n hx hb dL_buttons_0 rfl (lv_at hl 2 rfl) ?_
  refine lv_iconst (v := (0 : Int32)) hx hb dL_buttons_1 (by decide) ?_
  refine lv_aload_n hx hb dL_buttons_2 rfl (lv_at hl 0 rfl) ?_
  refine lv_iload_n hx hb dL_buttons_3 rfl (lv_at hl 1 rfl) ?_
  obtain ⟨fs4, ho4, hf⟩ := zz_obS_i hf
  rcases zz_th1_i hf with ⟨v4, h4, hv4, hf⟩ | ⟨k4, h4, hv4, hf⟩
  · refine zl_V X hR hl.1 (As := [.int x1]) (rest := [.int (0 : Int32), .ref x2]) (C := RX9) (T := TX9) (N := 6) (ro := (fun v : Int32 => some (Value.int v)) v4) (mt_X9_buttons hT x0 x1 h n hv4) rfl ho4 mf_X9_buttons q_749 q_750 q_751 ⟨Nat.le_of_ble_eq_true rfl, Nat.le_of_ble_eq_true rfl⟩ ⟨Nat.le_of_ble_eq_true rfl, Nat.le_of_ble_eq_true rfl⟩ rfl (Nat.le_of_ble_eq_true rfl) dL_buttons_4 (fun H locs hR => ?_)
    refine W.eq (g2 := F0 m 7 ls [.int v4, .int (0 : Int32), .ref x2]) rfl ?_
    refine W.widen (k := 2) (n := 12) (Nat.le_of_ble_eq_true rfl) (Nat.le_of_ble_eq_true rfl) ?_
    refine lv_i2l hx hb dL_buttons_7 rfl ?_
    refine zr_last X hR (r := (some x2)) dL_buttons_8 hf (fun h8 H locs hf hR => ?_)
    refine lv_goto (tgt := 18) hx hb dL_buttons_9 (by decide) ?_
    refine lv_iconst (v := (0 : Int32)) hx hb dL_buttons_18 (by decide) ?_
    cases hf
    exact zl_iret X hR (Nat.le_refl _) dL_buttons_19 (Nat.le_of_ble_eq_true rfl) (Nat.le_of_ble_eq_true rfl)
  · refine zl_X X hR hl.1 (As := [.int x1]) (rest := [.int (0 : Int32), .ref x2]) (C := RX9) (T := TX9) (N := 6) (k := k4) (mt_X9_buttons hT x0 x1 h n hv4) rfl ho4 mf_X9_buttons q_749 q_750 q_751 ⟨Nat.le_of_ble_eq_true rfl, Nat.le_of_ble_eq_true rfl⟩ ⟨Nat.le_of_ble_eq_true rfl, Nat.le_of_ble_eq_true rfl⟩ rfl (Nat.le_of_ble_eq_true rfl) dL_buttons_4 (fun H locs nn ce qq hnn hR hce hcv hcl => ?_)
    by_cases ck : k4 = 2
    · subst ck
      replace hf := zz_pos rfl hf
      refine zl_catch X hN hE (k := 2) [] [(0, 9, 15, 22)] (0, 9, 12, 20) rfl (by decide) (fun z hz => nomatch hz) rfl (by decide) q_576 q_591 hce hcv hcl ?_
      refine lv_astore_n (i := 3) (lv' := [(3, .ref qq)]) hx hb dL_buttons_12 rfl (lv_sub hl [] rfl) (by decide) rfl (fun ls hl => ?_)
      refine lv_iconst (v := (1 : Int32)) hx hb dL_buttons_13 (by decide) ?_
      cases hf
      exact zl_iret X hR hnn dL_buttons_14 (Nat.le_of_ble_eq_true rfl) (Nat.le_of_ble_eq_true rfl)
    replace hf := zz_neg ck hf
    by_cases ck : k4 = 3
    · subst ck
      replace hf := zz_pos rfl hf
      refine zl_catch X hN hE (k := 3) [(0, 9, 12, 20)] [] (0, 9, 15, 22) rfl (by decide) (by intro z hz; simp only [List.mem_cons, List.not_mem_nil, or_false] at hz; rcases hz with rfl <;> first | exact ⟨by decide, 2, by decide, by decide, q_576⟩) rfl (by decide) q_577 q_618 hce hcv hcl ?_
      refine lv_astore_n (i := 3) (lv' := [(3, .ref qq)]) hx hb dL_buttons_15 rfl (lv_sub hl [] rfl) (by decide) rfl (fun ls hl => ?_)
      refine lv_iconst (v := (2 : Int32)) hx hb dL_buttons_16 (by decide) ?_
      cases hf
      exact zl_iret X hR hnn dL_buttons_17 (Nat.le_of_ble_eq_true rfl) (Nat.le_of_ble_eq_true rfl)
    replace hf := zz_neg ck hf
    cases hf
def rm_L_draw : Room := { frames := 10, cells := 6, slots := 36, locals := 178 }
theorem mf_L_draw : Cond.codeWith yL_draw cL_draw 6 (some .int) [(0, 12, 15, 20), (0, 12, 19, 13), (0, 12, 23, 22), (0, 12, 27, 15)] ∈ zz_G ∧ Cond.initialized yL_draw.cls ∈ zz_G ∧ (yL_draw.cls ≠ "java/lang/invoke/MethodHandle" ∧ yL_draw.cls ≠ "java/lang/invoke/VarHandle" ∧ (parseMethodDescriptor yL_draw.desc).map (fun d => d.parameters.length) = some 5) := ⟨q_755, q_0, by decide +kernel, by decide +kernel, by decide +kernel⟩
set_option maxHeartbeats 4000000 in
set_option maxRecDepth 100000 in
theorem mt_L_draw {D : va_G} {dA : Nat → ClassId} {base t0 : Nat} {l : Launch} (hT : l.stackTraces = false) (x0 : Nat) (x1 : Int32) (x2 : Int32) (x3 : Int32) (x4 : Nat) (h : zz_H) (n : Nat) {r0 : Int32} {hF : zz_H} {nF : Nat} (hf : f_L_draw t0 x0 x1 x2 x3 x4 h n = some (r0, hF, nF)) : zz_ML D dA base t0 l yL_draw cL_draw 6 [(0, 12, 15, 20), (0, 12, 19, 13), (0, 12, 23, 22), (0, 12, 27, 15)] rm_L_draw [.ref x0, .int x1, .int x2, .int x3, .ref x4] h n r0 hF nF := by
  refine zz_ofH (cc := cL_draw) (maxL := 6) (ret := some .int) (by decide +kernel) rfl ?_
  intro p e s m args below meth c s₁ B hml hE hv
  obtain ⟨rfl, hP, hK, hN⟩ := hv
  have X : zz_X D dA base t0 "SpringseatLaw" cL_draw 6 (some .int) l p s m meth c := ⟨B.exec, B.bytes, hml, B.returns, findClass_of_methodNamed B.named, B.notSynchronized, hT, by rw [hP.1]; exact hP.2.1, hK⟩
  have hx := X.1
  have hb := X.2.1
  have hown := X.2.2.2.2.1
  have hR : zz_R D dA base h n s s.heap [] := ⟨hP, va_S.rf⟩
  have hl := lv_entry ([.ref x0, .int x1, .int x2, .int x3, .ref x4]) (n := 6) (by exact Nat.le_of_ble_eq_true rfl)
  rw [lg_entry_eq]
  generalize (lg_sl ([.ref x0, .int x1, .int x2, .int x3, .ref x4]) ++ List.replicate (6 - (lg_sl ([.ref x0, .int x1, .int x2, .int x3, .ref x4])).length) Slot.unset).toArray = ls at hl ⊢
  have hl : lv_has ls 6 [(0, .ref x0), (1, .int x1), (2, .int x2), (3, .int x3), (4, .ref x4)] := hl
  unfold f_L_draw at hf
  refine lv_aload hx hb dL_draw_0 (lv_at hl 4 rfl) ?_
  refine lv_iconst (v := (0 : Int32)) hx hb dL_draw_2 (by decide) ?_
  refine lv_aload_n hx hb dL_draw_3 rfl (lv_at hl 0 rfl) ?_
  refine lv_iload_n hx hb dL_draw_4 rfl (lv_at hl 1 rfl) ?_
  refine lv_iload_n hx hb dL_draw_5 rfl (lv_at hl 2 rfl) ?_
  refine lv_iload_n hx hb dL_draw_6 rfl (lv_at hl 3 rfl) ?_
  obtain ⟨fs7, ho7, hf⟩ := zz_obS_i hf
  rcases zz_th1_i hf with ⟨v7, h7, hv7, hf⟩ | ⟨k7, h7, hv7, hf⟩
  · refine zl_V X hR hl.1 (As := [.int x1, .int x2, .int x3]) (rest := [.int (0 : Int32), .ref x4]) (C := RX9) (T := TX9) (N := 6) (ro := (fun v : Int32 => some (Value.int v)) v7) (mt_X9_draw hT x0 x1 x2 x3 h n hv7) rfl ho7 mf_X9_draw q_756 q_757 q_758 ⟨Nat.le_of_ble_eq_true rfl, Nat.le_of_ble_eq_true rfl⟩ ⟨Nat.le_of_ble_eq_true rfl, Nat.le_of_ble_eq_true rfl⟩ rfl (Nat.le_of_ble_eq_true rfl) dL_draw_7 (fun H locs hR => ?_)
    refine W.eq (g2 := F0 m 10 ls [.int v7, .int (0 : Int32), .ref x4]) rfl ?_
    refine W.widen (k := 6) (n := 36) (Nat.le_of_ble_eq_true rfl) (Nat.le_of_ble_eq_true rfl) ?_
    refine lv_i2l hx hb dL_draw_10 rfl ?_
    refine zr_last X hR (r := (some x4)) dL_draw_11 hf (fun h11 H locs hf hR => ?_)
    refine lv_goto (tgt := 31) hx hb dL_draw_12 (by decide) ?_
    refine lv_iconst (v := (0 : Int32)) hx hb dL_draw_31 (by decide) ?_
    cases hf
    exact zl_iret X hR (Nat.le_refl _) dL_draw_32 (Nat.le_of_ble_eq_true rfl) (Nat.le_of_ble_eq_true rfl)
  · refine zl_X X hR hl.1 (As := [.int x1, .int x2, .int x3]) (rest := [.int (0 : Int32), .ref x4]) (C := RX9) (T := TX9) (N := 6) (k := k7) (mt_X9_draw hT x0 x1 x2 x3 h n hv7) rfl ho7 mf_X9_draw q_756 q_757 q_758 ⟨Nat.le_of_ble_eq_true rfl, Nat.le_of_ble_eq_true rfl⟩ ⟨Nat.le_of_ble_eq_true rfl, Nat.le_of_ble_eq_true rfl⟩ rfl (Nat.le_of_ble_eq_true rfl) dL_draw_7 (fun H locs nn ce qq hnn hR hce hcv hcl => ?_)
    by_cases ck : k7 = 2
    · subst ck
      replace hf := zz_pos rfl hf
      refine zl_catch X hN hE (k := 2) [] [(0, 12, 19, 13), (0, 12, 23, 22), (0, 12, 27, 15)] (0, 12, 15, 20) rfl (by decide) (fun z hz => nomatch hz) rfl (by decide) q_576 q_591 hce hcv hcl ?_
      refine lv_astore (i := 5) (lv' := [(5, .ref qq)]) hx hb dL_draw_15 (lv_sub hl [] rfl) (by decide) rfl (fun ls hl => ?_)
      refine lv_iconst (v := (1 : Int32)) hx hb dL_draw_17 (by decide) ?_
      cases hf
      exact zl_iret X hR hnn dL_draw_18 (Nat.le_of_ble_eq_true rfl) (Nat.le_of_ble_eq_true rfl)
    replace hf := zz_neg ck hf
    by_cases ck : k7 = 0
    · subst ck
      replace hf := zz_pos rfl hf
      refine zl_catch X hN hE (k := 0) [(0, 12, 15, 20)] [(0, 12, 23, 22), (0, 12, 27, 15)] (0, 12, 19, 13) rfl (by decide) (by intro z hz; simp only [List.mem_cons, List.not_mem_nil, or_false] at hz; rcases hz with rfl <;> first | exact ⟨by decide, 2, by decide, by decide, q_576⟩) rfl (by decide) q_338 q_349 hce hcv hcl ?_
      refine lv_astore (i := 5) (lv' := [(5, .ref qq)]) hx hb dL_draw_19 (lv_sub hl [] rfl) (by decide) rfl (fun ls hl => ?_)
      refine lv_iconst (v := (2 : Int32)) hx hb dL_draw_21 (by decide) ?_
      cases hf
      exact zl_iret X hR hnn dL_draw_22 (Nat.le_of_ble_eq_true rfl) (Nat.le_of_ble_eq_true rfl)
    replace hf := zz_neg ck hf
    by_cases ck : k7 = 3
    · subst ck
      replace hf := zz_pos rfl hf
      refine zl_catch X hN hE (k := 3) [(0, 12, 15, 20), (0, 12, 19, 13)] [(0, 12, 27, 15)] (0, 12, 23, 22) rfl (by decide) (by intro z hz; simp only [List.mem_cons, List.not_mem_nil, or_false] at hz; rcases hz with rfl | rfl <;> first | exact ⟨by decide, 2, by decide, by decide, q_576⟩ | exact ⟨by decide, 0, by decide, by decide, q_338⟩) rfl (by decide) q_577 q_618 hce hcv hcl ?_
      refine lv_astore (i := 5) (lv' := [(5, .ref qq)]) hx hb dL_draw_23 (lv_sub hl [] rfl) (by decide) rfl (fun ls hl => ?_)
      refine lv_iconst (v := (3 : Int32)) hx hb dL_draw_25 (by decide) ?_
      cases hf
      exact zl_iret X hR hnn dL_draw_26 (Nat.le_of_ble_eq_true rfl) (Nat.le_of_ble_eq_true rfl)
    replace hf := zz_neg ck hf
    by_cases ck : k7 = 1
    · subst ck
      replace hf := zz_pos rfl hf
      refine zl_catch X hN hE (k := 1) [(0, 12, 15, 20), (0, 12, 19, 13), (0, 12, 23, 22)] [] (0, 12, 27, 15) rfl (by decide) (by intro z hz; simp only [List.mem_cons, List.not_mem_nil, or_false] at hz; rcases hz with rfl | rfl | rfl <;> first | exact ⟨by decide, 2, by decide, by decide, q_576⟩ | exact ⟨by decide, 0, by decide, by decide, q_338⟩ | exact ⟨by decide, 3, by decide, by decide, q_577⟩) rfl (by decide) q_339 q_422 hce hcv hcl ?_
      refine lv_astore (i := 5) (lv' := [(5, .ref qq)]) hx hb dL_draw_27 (lv_sub hl [] rfl) (by decide) rfl (fun ls hl => ?_)
      refine lv_iconst (v := (4 : Int32)) hx hb dL_draw_29 (by decide) ?_
      cases hf
      exact zl_iret X hR hnn dL_draw_30 (Nat.le_of_ble_eq_true rfl) (Nat.le_of_ble_eq_true rfl)
    replace hf := zz_neg ck hf
    cases hf
def rm_L_cover : Room := { frames := 9, cells := 5, slots := 30, locals := 177 }
theorem mf_L_cover : Cond.codeWith yL_cover cL_cover 6 (some .int) [(0, 12, 15, 20), (0, 12, 19, 13), (0, 12, 23, 22), (0, 12, 27, 53)] ∈ zz_G ∧ Cond.initialized yL_cover.cls ∈ zz_G ∧ (yL_cover.cls ≠ "java/lang/invoke/MethodHandle" ∧ yL_cover.cls ≠ "java/lang/invoke/VarHandle" ∧ (parseMethodDescriptor yL_cover.desc).map (fun d => d.parameters.length) = some 5) := ⟨q_767, q_0, by decide +kernel, by decide +kernel, by decide +kernel⟩
set_option maxHeartbeats 4000000 in
set_option maxRecDepth 100000 in
theorem mt_L_cover {D : va_G} {dA : Nat → ClassId} {base t0 : Nat} {l : Launch} (hT : l.stackTraces = false) (x0 : Nat) (x1 : Int32) (x2 : Int32) (x3 : Int32) (x4 : Nat) (h : zz_H) (n : Nat) {r0 : Int32} {hF : zz_H} {nF : Nat} (hf : f_L_cover t0 x0 x1 x2 x3 x4 h n = some (r0, hF, nF)) : zz_ML D dA base t0 l yL_cover cL_cover 6 [(0, 12, 15, 20), (0, 12, 19, 13), (0, 12, 23, 22), (0, 12, 27, 53)] rm_L_cover [.ref x0, .int x1, .int x2, .int x3, .ref x4] h n r0 hF nF := by
  refine zz_ofH (cc := cL_cover) (maxL := 6) (ret := some .int) (by decide +kernel) rfl ?_
  intro p e s m args below meth c s₁ B hml hE hv
  obtain ⟨rfl, hP, hK, hN⟩ := hv
  have X : zz_X D dA base t0 "SpringseatLaw" cL_cover 6 (some .int) l p s m meth c := ⟨B.exec, B.bytes, hml, B.returns, findClass_of_methodNamed B.named, B.notSynchronized, hT, by rw [hP.1]; exact hP.2.1, hK⟩
  have hx := X.1
  have hb := X.2.1
  have hown := X.2.2.2.2.1
  have hR : zz_R D dA base h n s s.heap [] := ⟨hP, va_S.rf⟩
  have hl := lv_entry ([.ref x0, .int x1, .int x2, .int x3, .ref x4]) (n := 6) (by exact Nat.le_of_ble_eq_true rfl)
  rw [lg_entry_eq]
  generalize (lg_sl ([.ref x0, .int x1, .int x2, .int x3, .ref x4]) ++ List.replicate (6 - (lg_sl ([.ref x0, .int x1, .int x2, .int x3, .ref x4])).length) Slot.unset).toArray = ls at hl ⊢
  have hl : lv_has ls 6 [(0, .ref x0), (1, .int x1), (2, .int x2), (3, .int x3), (4, .ref x4)] := hl
  unfold f_L_cover at hf
  refine lv_aload hx hb dL_cover_0 (lv_at hl 4 rfl) ?_
  refine lv_iconst (v := (0 : Int32)) hx hb dL_cover_2 (by decide) ?_
  refine lv_aload_n hx hb dL_cover_3 rfl (lv_at hl 0 rfl) ?_
  refine lv_iload_n hx hb dL_cover_4 rfl (lv_at hl 1 rfl) ?_
  refine lv_iload_n hx hb dL_cover_5 rfl (lv_at hl 2 rfl) ?_
  refine lv_iload_n hx hb dL_cover_6 rfl (lv_at hl 3 rfl) ?_
  obtain ⟨fs7, ho7, hf⟩ := zz_obS_i hf
  rcases zz_th1_i hf with ⟨v7, h7, hv7, hf⟩ | ⟨k7, h7, hv7, hf⟩
  · refine zl_V X hR hl.1 (As := [.int x1, .int x2, .int x3]) (rest := [.int (0 : Int32), .ref x4]) (C := RX9) (T := TX9) (N := 6) (ro := (fun v : Int32 => some (Value.int v)) v7) (mt_X9_cover hT x0 x1 x2 x3 h n hv7) rfl ho7 mf_X9_cover q_769 q_770 q_771 ⟨Nat.le_of_ble_eq_true rfl, Nat.le_of_ble_eq_true rfl⟩ ⟨Nat.le_of_ble_eq_true rfl, Nat.le_of_ble_eq_true rfl⟩ rfl (Nat.le_of_ble_eq_true rfl) dL_cover_7 (fun H locs hR => ?_)
    refine W.eq (g2 := F0 m 10 ls [.int v7, .int (0 : Int32), .ref x4]) rfl ?_
    refine W.widen (k := 5) (n := 30) (Nat.le_of_ble_eq_true rfl) (Nat.le_of_ble_eq_true rfl) ?_
    refine lv_i2l hx hb dL_cover_10 rfl ?_
    refine zr_last X hR (r := (some x4)) dL_cover_11 hf (fun h11 H locs hf hR => ?_)
    refine lv_goto (tgt := 31) hx hb dL_cover_12 (by decide) ?_
    refine lv_iconst (v := (0 : Int32)) hx hb dL_cover_31 (by decide) ?_
    cases hf
    exact zl_iret X hR (Nat.le_refl _) dL_cover_32 (Nat.le_of_ble_eq_true rfl) (Nat.le_of_ble_eq_true rfl)
  · refine zl_X X hR hl.1 (As := [.int x1, .int x2, .int x3]) (rest := [.int (0 : Int32), .ref x4]) (C := RX9) (T := TX9) (N := 6) (k := k7) (mt_X9_cover hT x0 x1 x2 x3 h n hv7) rfl ho7 mf_X9_cover q_769 q_770 q_771 ⟨Nat.le_of_ble_eq_true rfl, Nat.le_of_ble_eq_true rfl⟩ ⟨Nat.le_of_ble_eq_true rfl, Nat.le_of_ble_eq_true rfl⟩ rfl (Nat.le_of_ble_eq_true rfl) dL_cover_7 (fun H locs nn ce qq hnn hR hce hcv hcl => ?_)
    by_cases ck : k7 = 2
    · subst ck
      replace hf := zz_pos rfl hf
      refine zl_catch X hN hE (k := 2) [] [(0, 12, 19, 13), (0, 12, 23, 22), (0, 12, 27, 53)] (0, 12, 15, 20) rfl (by decide) (fun z hz => nomatch hz) rfl (by decide) q_576 q_591 hce hcv hcl ?_
      refine lv_astore (i := 5) (lv' := [(5, .ref qq)]) hx hb dL_cover_15 (lv_sub hl [] rfl) (by decide) rfl (fun ls hl => ?_)
      refine lv_iconst (v := (1 : Int32)) hx hb dL_cover_17 (by decide) ?_
      cases hf
      exact zl_iret X hR hnn dL_cover_18 (Nat.le_of_ble_eq_true rfl) (Nat.le_of_ble_eq_true rfl)
    replace hf := zz_neg ck hf
    by_cases ck : k7 = 0
    · subst ck
      replace hf := zz_pos rfl hf
      refine zl_catch X hN hE (k := 0) [(0, 12, 15, 20)] [(0, 12, 23, 22), (0, 12, 27, 53)] (0, 12, 19, 13) rfl (by decide) (by intro z hz; simp only [List.mem_cons, List.not_mem_nil, or_false] at hz; rcases hz with rfl <;> first | exact ⟨by decide, 2, by decide, by decide, q_576⟩) rfl (by decide) q_338 q_349 hce hcv hcl ?_
      refine lv_astore (i := 5) (lv' := [(5, .ref qq)]) hx hb dL_cover_19 (lv_sub hl [] rfl) (by decide) rfl (fun ls hl => ?_)
      refine lv_iconst (v := (2 : Int32)) hx hb dL_cover_21 (by decide) ?_
      cases hf
      exact zl_iret X hR hnn dL_cover_22 (Nat.le_of_ble_eq_true rfl) (Nat.le_of_ble_eq_true rfl)
    replace hf := zz_neg ck hf
    by_cases ck : k7 = 3
    · subst ck
      replace hf := zz_pos rfl hf
      refine zl_catch X hN hE (k := 3) [(0, 12, 15, 20), (0, 12, 19, 13)] [(0, 12, 27, 53)] (0, 12, 23, 22) rfl (by decide) (by intro z hz; simp only [List.mem_cons, List.not_mem_nil, or_false] at hz; rcases hz with rfl | rfl <;> first | exact ⟨by decide, 2, by decide, by decide, q_576⟩ | exact ⟨by decide, 0, by decide, by decide, q_338⟩) rfl (by decide) q_577 q_618 hce hcv hcl ?_
      refine lv_astore (i := 5) (lv' := [(5, .ref qq)]) hx hb dL_cover_23 (lv_sub hl [] rfl) (by decide) rfl (fun ls hl => ?_)
      refine lv_iconst (v := (3 : Int32)) hx hb dL_cover_25 (by decide) ?_
      cases hf
      exact zl_iret X hR hnn dL_cover_26 (Nat.le_of_ble_eq_true rfl) (Nat.le_of_ble_eq_true rfl)
    replace hf := zz_neg ck hf
    by_cases ck : k7 = 4
    · subst ck
      replace hf := zz_pos rfl hf
      refine zl_catch X hN hE (k := 4) [(0, 12, 15, 20), (0, 12, 19, 13), (0, 12, 23, 22)] [] (0, 12, 27, 53) rfl (by decide) (by intro z hz; simp only [List.mem_cons, List.not_mem_nil, or_false] at hz; rcases hz with rfl | rfl | rfl <;> first | exact ⟨by decide, 2, by decide, by decide, q_576⟩ | exact ⟨by decide, 0, by decide, by decide, q_338⟩ | exact ⟨by decide, 3, by decide, by decide, q_577⟩) rfl (by decide) q_768 q_802 hce hcv hcl ?_
      refine lv_astore (i := 5) (lv' := [(5, .ref qq)]) hx hb dL_cover_27 (lv_sub hl [] rfl) (by decide) rfl (fun ls hl => ?_)
      refine lv_iconst (v := (4 : Int32)) hx hb dL_cover_29 (by decide) ?_
      cases hf
      exact zl_iret X hR hnn dL_cover_30 (Nat.le_of_ble_eq_true rfl) (Nat.le_of_ble_eq_true rfl)
    replace hf := zz_neg ck hf
    cases hf
def rm_L_sign : Room := { frames := 9, cells := 2, slots := 12, locals := 154 }
theorem mf_L_sign : Cond.codeWith yL_sign cL_sign 4 (some .int) [(0, 9, 12, 20), (0, 9, 15, 22)] ∈ zz_G ∧ Cond.initialized yL_sign.cls ∈ zz_G ∧ (yL_sign.cls ≠ "java/lang/invoke/MethodHandle" ∧ yL_sign.cls ≠ "java/lang/invoke/VarHandle" ∧ (parseMethodDescriptor yL_sign.desc).map (fun d => d.parameters.length) = some 3) := ⟨q_818, q_0, by decide +kernel, by decide +kernel, by decide +kernel⟩
set_option maxHeartbeats 4000000 in
set_option maxRecDepth 100000 in
theorem mt_L_sign {D : va_G} {dA : Nat → ClassId} {base t0 : Nat} {l : Launch} (hT : l.stackTraces = false) (x0 : Nat) (x1 : Int32) (x2 : Nat) (h : zz_H) (n : Nat) {r0 : Int32} {hF : zz_H} {nF : Nat} (hf : f_L_sign t0 x0 x1 x2 h n = some (r0, hF, nF)) : zz_ML D dA base t0 l yL_sign cL_sign 4 [(0, 9, 12, 20), (0, 9, 15, 22)] rm_L_sign [.ref x0, .int x1, .ref x2] h n r0 hF nF := by
  refine zz_ofH (cc := cL_sign) (maxL := 4) (ret := some .int) (by decide +kernel) rfl ?_
  intro p e s m args below meth c s₁ B hml hE hv
  obtain ⟨rfl, hP, hK, hN⟩ := hv
  have X : zz_X D dA base t0 "SpringseatLaw" cL_sign 4 (some .int) l p s m meth c := ⟨B.exec, B.bytes, hml, B.returns, findClass_of_methodNamed B.named, B.notSynchronized, hT, by rw [hP.1]; exact hP.2.1, hK⟩
  have hx := X.1
  have hb := X.2.1
  have hown := X.2.2.2.2.1
  have hR : zz_R D dA base h n s s.heap [] := ⟨hP, va_S.rf⟩
  have hl := lv_entry ([.ref x0, .int x1, .ref x2]) (n := 4) (by exact Nat.le_of_ble_eq_true rfl)
  rw [lg_entry_eq]
  generalize (lg_sl ([.ref x0, .int x1, .ref x2]) ++ List.replicate (4 - (lg_sl ([.ref x0, .int x1, .ref x2])).length) Slot.unset).toArray = ls at hl ⊢
  have hl : lv_has ls 4 [(0, .ref x0), (1, .int x1), (2, .ref x2)] := hl
  unfold f_L_sign at hf
  refine lv_aload_n hx hb dL_sign_0 rfl (lv_at hl 2 rfl) ?_
  refine lv_iconst (v := (0 : Int32)) hx hb dL_sign_1 (by decide) ?_
  refine lv_aload_n hx hb dL_sign_2 rfl (lv_at hl 0 rfl) ?_
  refine lv_iload_n hx hb dL_sign_3 rfl (lv_at hl 1 rfl) ?_
  obtain ⟨fs4, ho4, hf⟩ := zz_obS_i hf
  rcases zz_th1_i hf with ⟨v4, h4, hv4, hf⟩ | ⟨k4, h4, hv4, hf⟩
  · refine zl_V X hR hl.1 (As := [.int x1]) (rest := [.int (0 : Int32), .ref x2]) (C := RX9) (T := TX9) (N := 6) (ro := (fun v : Int32 => some (Value.int v)) v4) (mt_X9_sign hT x0 x1 h n hv4) rfl ho4 mf_X9_sign q_819 q_820 q_821 ⟨Nat.le_of_ble_eq_true rfl, Nat.le_of_ble_eq_true rfl⟩ ⟨Nat.le_of_ble_eq_true rfl, Nat.le_of_ble_eq_true rfl⟩ rfl (Nat.le_of_ble_eq_true rfl) dL_sign_4 (fun H locs hR => ?_)
    refine W.eq (g2 := F0 m 7 ls [.int v4, .int (0 : Int32), .ref x2]) rfl ?_
    refine W.widen (k := 2) (n := 12) (Nat.le_of_ble_eq_true rfl) (Nat.le_of_ble_eq_true rfl) ?_
    refine lv_i2l hx hb dL_sign_7 rfl ?_
    refine zr_last X hR (r := (some x2)) dL_sign_8 hf (fun h8 H locs hf hR => ?_)
    refine lv_goto (tgt := 18) hx hb dL_sign_9 (by decide) ?_
    refine lv_iconst (v := (0 : Int32)) hx hb dL_sign_18 (by decide) ?_
    cases hf
    exact zl_iret X hR (Nat.le_refl _) dL_sign_19 (Nat.le_of_ble_eq_true rfl) (Nat.le_of_ble_eq_true rfl)
  · refine zl_X X hR hl.1 (As := [.int x1]) (rest := [.int (0 : Int32), .ref x2]) (C := RX9) (T := TX9) (N := 6) (k := k4) (mt_X9_sign hT x0 x1 h n hv4) rfl ho4 mf_X9_sign q_819 q_820 q_821 ⟨Nat.le_of_ble_eq_true rfl, Nat.le_of_ble_eq_true rfl⟩ ⟨Nat.le_of_ble_eq_true rfl, Nat.le_of_ble_eq_true rfl⟩ rfl (Nat.le_of_ble_eq_true rfl) dL_sign_4 (fun H locs nn ce qq hnn hR hce hcv hcl => ?_)
    by_cases ck : k4 = 2
    · subst ck
      replace hf := zz_pos rfl hf
      refine zl_catch X hN hE (k := 2) [] [(0, 9, 15, 22)] (0, 9, 12, 20) rfl (by decide) (fun z hz => nomatch hz) rfl (by decide) q_576 q_591 hce hcv hcl ?_
      refine lv_astore_n (i := 3) (lv' := [(3, .ref qq)]) hx hb dL_sign_12 rfl (lv_sub hl [] rfl) (by decide) rfl (fun ls hl => ?_)
      refine lv_iconst (v := (1 : Int32)) hx hb dL_sign_13 (by decide) ?_
      cases hf
      exact zl_iret X hR hnn dL_sign_14 (Nat.le_of_ble_eq_true rfl) (Nat.le_of_ble_eq_true rfl)
    replace hf := zz_neg ck hf
    by_cases ck : k4 = 3
    · subst ck
      replace hf := zz_pos rfl hf
      refine zl_catch X hN hE (k := 3) [(0, 9, 12, 20)] [] (0, 9, 15, 22) rfl (by decide) (by intro z hz; simp only [List.mem_cons, List.not_mem_nil, or_false] at hz; rcases hz with rfl <;> first | exact ⟨by decide, 2, by decide, by decide, q_576⟩) rfl (by decide) q_577 q_618 hce hcv hcl ?_
      refine lv_astore_n (i := 3) (lv' := [(3, .ref qq)]) hx hb dL_sign_15 rfl (lv_sub hl [] rfl) (by decide) rfl (fun ls hl => ?_)
      refine lv_iconst (v := (2 : Int32)) hx hb dL_sign_16 (by decide) ?_
      cases hf
      exact zl_iret X hR hnn dL_sign_17 (Nat.le_of_ble_eq_true rfl) (Nat.le_of_ble_eq_true rfl)
    replace hf := zz_neg ck hf
    cases hf
def rm_L_open : Room := { frames := 9, cells := 2, slots := 12, locals := 155 }
theorem mf_L_open : Cond.codeWith yL_open cL_open 5 (some .int) [(0, 10, 13, 20), (0, 10, 17, 13)] ∈ zz_G ∧ Cond.initialized yL_open.cls ∈ zz_G ∧ (yL_open.cls ≠ "java/lang/invoke/MethodHandle" ∧ yL_open.cls ≠ "java/lang/invoke/VarHandle" ∧ (parseMethodDescriptor yL_open.desc).map (fun d => d.parameters.length) = some 4) := ⟨q_830, q_0, by decide +kernel, by decide +kernel, by decide +kernel⟩
set_option maxHeartbeats 4000000 in
set_option maxRecDepth 100000 in
theorem mt_L_open {D : va_G} {dA : Nat → ClassId} {base t0 : Nat} {l : Launch} (hT : l.stackTraces = false) (x0 : Nat) (x1 : Int32) (x2 : Int32) (x3 : Nat) (h : zz_H) (n : Nat) {r0 : Int32} {hF : zz_H} {nF : Nat} (hf : f_L_open t0 x0 x1 x2 x3 h n = some (r0, hF, nF)) : zz_ML D dA base t0 l yL_open cL_open 5 [(0, 10, 13, 20), (0, 10, 17, 13)] rm_L_open [.ref x0, .int x1, .int x2, .ref x3] h n r0 hF nF := by
  refine zz_ofH (cc := cL_open) (maxL := 5) (ret := some .int) (by decide +kernel) rfl ?_
  intro p e s m args below meth c s₁ B hml hE hv
  obtain ⟨rfl, hP, hK, hN⟩ := hv
  have X : zz_X D dA base t0 "SpringseatLaw" cL_open 5 (some .int) l p s m meth c := ⟨B.exec, B.bytes, hml, B.returns, findClass_of_methodNamed B.named, B.notSynchronized, hT, by rw [hP.1]; exact hP.2.1, hK⟩
  have hx := X.1
  have hb := X.2.1
  have hown := X.2.2.2.2.1
  have hR : zz_R D dA base h n s s.heap [] := ⟨hP, va_S.rf⟩
  have hl := lv_entry ([.ref x0, .int x1, .int x2, .ref x3]) (n := 5) (by exact Nat.le_of_ble_eq_true rfl)
  rw [lg_entry_eq]
  generalize (lg_sl ([.ref x0, .int x1, .int x2, .ref x3]) ++ List.replicate (5 - (lg_sl ([.ref x0, .int x1, .int x2, .ref x3])).length) Slot.unset).toArray = ls at hl ⊢
  have hl : lv_has ls 5 [(0, .ref x0), (1, .int x1), (2, .int x2), (3, .ref x3)] := hl
  unfold f_L_open at hf
  refine lv_aload_n hx hb dL_open_0 rfl (lv_at hl 3 rfl) ?_
  refine lv_iconst (v := (0 : Int32)) hx hb dL_open_1 (by decide) ?_
  refine lv_aload_n hx hb dL_open_2 rfl (lv_at hl 0 rfl) ?_
  refine lv_iload_n hx hb dL_open_3 rfl (lv_at hl 1 rfl) ?_
  refine lv_iload_n hx hb dL_open_4 rfl (lv_at hl 2 rfl) ?_
  obtain ⟨fs5, ho5, hf⟩ := zz_obS_i hf
  rcases zz_th1_i hf with ⟨v5, h5, hv5, hf⟩ | ⟨k5, h5, hv5, hf⟩
  · refine zl_V X hR hl.1 (As := [.int x1, .int x2]) (rest := [.int (0 : Int32), .ref x3]) (C := RX9) (T := TX9) (N := 6) (ro := (fun v : Int32 => some (Value.int v)) v5) (mt_X9_open hT x0 x1 x2 h n hv5) rfl ho5 mf_X9_open q_831 q_832 q_833 ⟨Nat.le_of_ble_eq_true rfl, Nat.le_of_ble_eq_true rfl⟩ ⟨Nat.le_of_ble_eq_true rfl, Nat.le_of_ble_eq_true rfl⟩ rfl (Nat.le_of_ble_eq_true rfl) dL_open_5 (fun H locs hR => ?_)
    refine W.eq (g2 := F0 m 8 ls [.int v5, .int (0 : Int32), .ref x3]) rfl ?_
    refine W.widen (k := 2) (n := 12) (Nat.le_of_ble_eq_true rfl) (Nat.le_of_ble_eq_true rfl) ?_
    refine lv_i2l hx hb dL_open_8 rfl ?_
    refine zr_last X hR (r := (some x3)) dL_open_9 hf (fun h9 H locs hf hR => ?_)
    refine lv_goto (tgt := 21) hx hb dL_open_10 (by decide) ?_
    refine lv_iconst (v := (0 : Int32)) hx hb dL_open_21 (by decide) ?_
    cases hf
    exact zl_iret X hR (Nat.le_refl _) dL_open_22 (Nat.le_of_ble_eq_true rfl) (Nat.le_of_ble_eq_true rfl)
  · refine zl_X X hR hl.1 (As := [.int x1, .int x2]) (rest := [.int (0 : Int32), .ref x3]) (C := RX9) (T := TX9) (N := 6) (k := k5) (mt_X9_open hT x0 x1 x2 h n hv5) rfl ho5 mf_X9_open q_831 q_832 q_833 ⟨Nat.le_of_ble_eq_true rfl, Nat.le_of_ble_eq_true rfl⟩ ⟨Nat.le_of_ble_eq_true rfl, Nat.le_of_ble_eq_true rfl⟩ rfl (Nat.le_of_ble_eq_true rfl) dL_open_5 (fun H locs nn ce qq hnn hR hce hcv hcl => ?_)
    by_cases ck : k5 = 2
    · subst ck
      replace hf := zz_pos rfl hf
      refine zl_catch X hN hE (k := 2) [] [(0, 10, 17, 13)] (0, 10, 13, 20) rfl (by decide) (fun z hz => nomatch hz) rfl (by decide) q_576 q_591 hce hcv hcl ?_
      refine lv_astore (i := 4) (lv' := [(4, .ref qq)]) hx hb dL_open_13 (lv_sub hl [] rfl) (by decide) rfl (fun ls hl => ?_)
      refine lv_iconst (v := (1 : Int32)) hx hb dL_open_15 (by decide) ?_
      cases hf
      exact zl_iret X hR hnn dL_open_16 (Nat.le_of_ble_eq_true rfl) (Nat.le_of_ble_eq_true rfl)
    replace hf := zz_neg ck hf
    by_cases ck : k5 = 0
    · subst ck
      replace hf := zz_pos rfl hf
      refine zl_catch X hN hE (k := 0) [(0, 10, 13, 20)] [] (0, 10, 17, 13) rfl (by decide) (by intro z hz; simp only [List.mem_cons, List.not_mem_nil, or_false] at hz; rcases hz with rfl <;> first | exact ⟨by decide, 2, by decide, by decide, q_576⟩) rfl (by decide) q_338 q_349 hce hcv hcl ?_
      refine lv_astore (i := 4) (lv' := [(4, .ref qq)]) hx hb dL_open_17 (lv_sub hl [] rfl) (by decide) rfl (fun ls hl => ?_)
      refine lv_iconst (v := (2 : Int32)) hx hb dL_open_19 (by decide) ?_
      cases hf
      exact zl_iret X hR hnn dL_open_20 (Nat.le_of_ble_eq_true rfl) (Nat.le_of_ble_eq_true rfl)
    replace hf := zz_neg ck hf
    cases hf
def rm_L_steps : Room := { frames := 9, cells := 1, slots := 6, locals := 153 }
theorem mf_L_steps : Cond.codeWith yL_steps cL_steps 4 (some .int) [(0, 9, 12, 20)] ∈ zz_G ∧ Cond.initialized yL_steps.cls ∈ zz_G ∧ (yL_steps.cls ≠ "java/lang/invoke/MethodHandle" ∧ yL_steps.cls ≠ "java/lang/invoke/VarHandle" ∧ (parseMethodDescriptor yL_steps.desc).map (fun d => d.parameters.length) = some 3) := ⟨q_879, q_0, by decide +kernel, by decide +kernel, by decide +kernel⟩
set_option maxHeartbeats 4000000 in
set_option maxRecDepth 100000 in
theorem mt_L_steps {D : va_G} {dA : Nat → ClassId} {base t0 : Nat} {l : Launch} (hT : l.stackTraces = false) (x0 : Nat) (x1 : Int32) (x2 : Nat) (h : zz_H) (n : Nat) {r0 : Int32} {hF : zz_H} {nF : Nat} (hf : f_L_steps t0 x0 x1 x2 h n = some (r0, hF, nF)) : zz_ML D dA base t0 l yL_steps cL_steps 4 [(0, 9, 12, 20)] rm_L_steps [.ref x0, .int x1, .ref x2] h n r0 hF nF := by
  refine zz_ofH (cc := cL_steps) (maxL := 4) (ret := some .int) (by decide +kernel) rfl ?_
  intro p e s m args below meth c s₁ B hml hE hv
  obtain ⟨rfl, hP, hK, hN⟩ := hv
  have X : zz_X D dA base t0 "SpringseatLaw" cL_steps 4 (some .int) l p s m meth c := ⟨B.exec, B.bytes, hml, B.returns, findClass_of_methodNamed B.named, B.notSynchronized, hT, by rw [hP.1]; exact hP.2.1, hK⟩
  have hx := X.1
  have hb := X.2.1
  have hown := X.2.2.2.2.1
  have hR : zz_R D dA base h n s s.heap [] := ⟨hP, va_S.rf⟩
  have hl := lv_entry ([.ref x0, .int x1, .ref x2]) (n := 4) (by exact Nat.le_of_ble_eq_true rfl)
  rw [lg_entry_eq]
  generalize (lg_sl ([.ref x0, .int x1, .ref x2]) ++ List.replicate (4 - (lg_sl ([.ref x0, .int x1, .ref x2])).length) Slot.unset).toArray = ls at hl ⊢
  have hl : lv_has ls 4 [(0, .ref x0), (1, .int x1), (2, .ref x2)] := hl
  unfold f_L_steps at hf
  refine lv_aload_n hx hb dL_steps_0 rfl (lv_at hl 2 rfl) ?_
  refine lv_iconst (v := (0 : Int32)) hx hb dL_steps_1 (by decide) ?_
  refine lv_aload_n hx hb dL_steps_2 rfl (lv_at hl 0 rfl) ?_
  refine lv_iload_n hx hb dL_steps_3 rfl (lv_at hl 1 rfl) ?_
  obtain ⟨fs4, ho4, hf⟩ := zz_obS_i hf
  rcases zz_th_i hf with ⟨v4, hv4, hf⟩ | ⟨k4, hv4, hf⟩
  · refine zl_V X hR hl.1 (As := [.int x1]) (rest := [.int (0 : Int32), .ref x2]) (C := RX9) (T := TX9) (N := 6) (ro := (fun v : Int32 => some (Value.int v)) v4) (mt_X9_steps hT x0 x1 h n hv4) rfl ho4 mf_X9_steps q_880 q_881 q_882 ⟨Nat.le_of_ble_eq_true rfl, Nat.le_of_ble_eq_true rfl⟩ ⟨Nat.le_of_ble_eq_true rfl, Nat.le_of_ble_eq_true rfl⟩ rfl (Nat.le_of_ble_eq_true rfl) dL_steps_4 (fun H locs hR => ?_)
    refine W.eq (g2 := F0 m 7 ls [.int v4, .int (0 : Int32), .ref x2]) rfl ?_
    refine W.widen (k := 1) (n := 6) (Nat.le_of_ble_eq_true rfl) (Nat.le_of_ble_eq_true rfl) ?_
    refine lv_i2l hx hb dL_steps_7 rfl ?_
    refine zr_last X hR (r := (some x2)) dL_steps_8 hf (fun h8 H locs hf hR => ?_)
    refine lv_goto (tgt := 15) hx hb dL_steps_9 (by decide) ?_
    refine lv_iconst (v := (0 : Int32)) hx hb dL_steps_15 (by decide) ?_
    cases hf
    exact zl_iret X hR (Nat.le_refl _) dL_steps_16 (Nat.le_of_ble_eq_true rfl) (Nat.le_of_ble_eq_true rfl)
  · refine zl_X X hR hl.1 (As := [.int x1]) (rest := [.int (0 : Int32), .ref x2]) (C := RX9) (T := TX9) (N := 6) (k := k4) (mt_X9_steps hT x0 x1 h n hv4) rfl ho4 mf_X9_steps q_880 q_881 q_882 ⟨Nat.le_of_ble_eq_true rfl, Nat.le_of_ble_eq_true rfl⟩ ⟨Nat.le_of_ble_eq_true rfl, Nat.le_of_ble_eq_true rfl⟩ rfl (Nat.le_of_ble_eq_true rfl) dL_steps_4 (fun H locs nn ce qq hnn hR hce hcv hcl => ?_)
    by_cases ck : k4 = 2
    · subst ck
      replace hf := zz_pos rfl hf
      refine zl_catch X hN hE (k := 2) [] [] (0, 9, 12, 20) rfl (by decide) (fun z hz => nomatch hz) rfl (by decide) q_576 q_591 hce hcv hcl ?_
      refine lv_astore_n (i := 3) (lv' := [(3, .ref qq)]) hx hb dL_steps_12 rfl (lv_sub hl [] rfl) (by decide) rfl (fun ls hl => ?_)
      refine lv_iconst (v := (1 : Int32)) hx hb dL_steps_13 (by decide) ?_
      cases hf
      exact zl_iret X hR hnn dL_steps_14 (Nat.le_of_ble_eq_true rfl) (Nat.le_of_ble_eq_true rfl)
    replace hf := zz_neg ck hf
    cases hf
def rm_L_step : Room := { frames := 9, cells := 2, slots := 12, locals := 155 }
theorem mf_L_step : Cond.codeWith yL_step cL_step 5 (some .int) [(0, 10, 13, 20), (0, 10, 17, 53)] ∈ zz_G ∧ Cond.initialized yL_step.cls ∈ zz_G ∧ (yL_step.cls ≠ "java/lang/invoke/MethodHandle" ∧ yL_step.cls ≠ "java/lang/invoke/VarHandle" ∧ (parseMethodDescriptor yL_step.desc).map (fun d => d.parameters.length) = some 4) := ⟨q_886, q_0, by decide +kernel, by decide +kernel, by decide +kernel⟩
set_option maxHeartbeats 4000000 in
set_option maxRecDepth 100000 in
theorem mt_L_step {D : va_G} {dA : Nat → ClassId} {base t0 : Nat} {l : Launch} (hT : l.stackTraces = false) (x0 : Nat) (x1 : Int32) (x2 : Int32) (x3 : Nat) (h : zz_H) (n : Nat) {r0 : Int32} {hF : zz_H} {nF : Nat} (hf : f_L_step t0 x0 x1 x2 x3 h n = some (r0, hF, nF)) : zz_ML D dA base t0 l yL_step cL_step 5 [(0, 10, 13, 20), (0, 10, 17, 53)] rm_L_step [.ref x0, .int x1, .int x2, .ref x3] h n r0 hF nF := by
  refine zz_ofH (cc := cL_step) (maxL := 5) (ret := some .int) (by decide +kernel) rfl ?_
  intro p e s m args below meth c s₁ B hml hE hv
  obtain ⟨rfl, hP, hK, hN⟩ := hv
  have X : zz_X D dA base t0 "SpringseatLaw" cL_step 5 (some .int) l p s m meth c := ⟨B.exec, B.bytes, hml, B.returns, findClass_of_methodNamed B.named, B.notSynchronized, hT, by rw [hP.1]; exact hP.2.1, hK⟩
  have hx := X.1
  have hb := X.2.1
  have hown := X.2.2.2.2.1
  have hR : zz_R D dA base h n s s.heap [] := ⟨hP, va_S.rf⟩
  have hl := lv_entry ([.ref x0, .int x1, .int x2, .ref x3]) (n := 5) (by exact Nat.le_of_ble_eq_true rfl)
  rw [lg_entry_eq]
  generalize (lg_sl ([.ref x0, .int x1, .int x2, .ref x3]) ++ List.replicate (5 - (lg_sl ([.ref x0, .int x1, .int x2, .ref x3])).length) Slot.unset).toArray = ls at hl ⊢
  have hl : lv_has ls 5 [(0, .ref x0), (1, .int x1), (2, .int x2), (3, .ref x3)] := hl
  unfold f_L_step at hf
  refine lv_aload_n hx hb dL_step_0 rfl (lv_at hl 3 rfl) ?_
  refine lv_iconst (v := (0 : Int32)) hx hb dL_step_1 (by decide) ?_
  refine lv_aload_n hx hb dL_step_2 rfl (lv_at hl 0 rfl) ?_
  refine lv_iload_n hx hb dL_step_3 rfl (lv_at hl 1 rfl) ?_
  refine lv_iload_n hx hb dL_step_4 rfl (lv_at hl 2 rfl) ?_
  obtain ⟨fs5, ho5, hf⟩ := zz_obS_i hf
  rcases zz_th_i hf with ⟨v5, hv5, hf⟩ | ⟨k5, hv5, hf⟩
  · refine zl_V X hR hl.1 (As := [.int x1, .int x2]) (rest := [.int (0 : Int32), .ref x3]) (C := RX9) (T := TX9) (N := 6) (ro := (fun v : Int32 => some (Value.int v)) v5) (mt_X9_step hT x0 x1 x2 h n hv5) rfl ho5 mf_X9_step q_887 q_888 q_889 ⟨Nat.le_of_ble_eq_true rfl, Nat.le_of_ble_eq_true rfl⟩ ⟨Nat.le_of_ble_eq_true rfl, Nat.le_of_ble_eq_true rfl⟩ rfl (Nat.le_of_ble_eq_true rfl) dL_step_5 (fun H locs hR => ?_)
    refine W.eq (g2 := F0 m 8 ls [.int v5, .int (0 : Int32), .ref x3]) rfl ?_
    refine W.widen (k := 2) (n := 12) (Nat.le_of_ble_eq_true rfl) (Nat.le_of_ble_eq_true rfl) ?_
    refine lv_i2l hx hb dL_step_8 rfl ?_
    refine zr_last X hR (r := (some x3)) dL_step_9 hf (fun h9 H locs hf hR => ?_)
    refine lv_goto (tgt := 21) hx hb dL_step_10 (by decide) ?_
    refine lv_iconst (v := (0 : Int32)) hx hb dL_step_21 (by decide) ?_
    cases hf
    exact zl_iret X hR (Nat.le_refl _) dL_step_22 (Nat.le_of_ble_eq_true rfl) (Nat.le_of_ble_eq_true rfl)
  · refine zl_X X hR hl.1 (As := [.int x1, .int x2]) (rest := [.int (0 : Int32), .ref x3]) (C := RX9) (T := TX9) (N := 6) (k := k5) (mt_X9_step hT x0 x1 x2 h n hv5) rfl ho5 mf_X9_step q_887 q_888 q_889 ⟨Nat.le_of_ble_eq_true rfl, Nat.le_of_ble_eq_true rfl⟩ ⟨Nat.le_of_ble_eq_true rfl, Nat.le_of_ble_eq_true rfl⟩ rfl (Nat.le_of_ble_eq_true rfl) dL_step_5 (fun H locs nn ce qq hnn hR hce hcv hcl => ?_)
    by_cases ck : k5 = 2
    · subst ck
      replace hf := zz_pos rfl hf
      refine zl_catch X hN hE (k := 2) [] [(0, 10, 17, 53)] (0, 10, 13, 20) rfl (by decide) (fun z hz => nomatch hz) rfl (by decide) q_576 q_591 hce hcv hcl ?_
      refine lv_astore (i := 4) (lv' := [(4, .ref qq)]) hx hb dL_step_13 (lv_sub hl [] rfl) (by decide) rfl (fun ls hl => ?_)
      refine lv_iconst (v := (1 : Int32)) hx hb dL_step_15 (by decide) ?_
      cases hf
      exact zl_iret X hR hnn dL_step_16 (Nat.le_of_ble_eq_true rfl) (Nat.le_of_ble_eq_true rfl)
    replace hf := zz_neg ck hf
    by_cases ck : k5 = 4
    · subst ck
      replace hf := zz_pos rfl hf
      refine zl_catch X hN hE (k := 4) [(0, 10, 13, 20)] [] (0, 10, 17, 53) rfl (by decide) (by intro z hz; simp only [List.mem_cons, List.not_mem_nil, or_false] at hz; rcases hz with rfl <;> first | exact ⟨by decide, 2, by decide, by decide, q_576⟩) rfl (by decide) q_768 q_802 hce hcv hcl ?_
      refine lv_astore (i := 4) (lv' := [(4, .ref qq)]) hx hb dL_step_17 (lv_sub hl [] rfl) (by decide) rfl (fun ls hl => ?_)
      refine lv_iconst (v := (2 : Int32)) hx hb dL_step_19 (by decide) ?_
      cases hf
      exact zl_iret X hR hnn dL_step_20 (Nat.le_of_ble_eq_true rfl) (Nat.le_of_ble_eq_true rfl)
    replace hf := zz_neg ck hf
    cases hf
def rm_L_isSigned : Room := { frames := 9, cells := 2, slots := 12, locals := 155 }
theorem mf_L_isSigned : Cond.codeWith yL_isSigned cL_isSigned 5 (some .int) [(0, 17, 20, 20), (0, 17, 24, 53)] ∈ zz_G ∧ Cond.initialized yL_isSigned.cls ∈ zz_G ∧ (yL_isSigned.cls ≠ "java/lang/invoke/MethodHandle" ∧ yL_isSigned.cls ≠ "java/lang/invoke/VarHandle" ∧ (parseMethodDescriptor yL_isSigned.desc).map (fun d => d.parameters.length) = some 4) := ⟨q_898, q_0, by decide +kernel, by decide +kernel, by decide +kernel⟩
set_option maxHeartbeats 4000000 in
set_option maxRecDepth 100000 in
theorem bk_L_isSigned_16 {D : va_G} {dA : Nat → ClassId} {base t0 : Nat} {l : Launch} {p : Program} {e : Env} {s : State} {m : MethodId} {args : Array Value} {below : List Frame} {meth : Method} {c : Code} (X : zz_X D dA base t0 "SpringseatLaw" cL_isSigned 5 (some .int) l p s m meth c) (hT : l.stackTraces = false) {s0 : Int64} {s1 : Int32} {s2 : (Option Nat)} {h : zz_H} {n : Nat} {H : Heap} {locs : List Loc} {ls : Array Slot} (hR : zz_R D dA base h n s H locs) (hl : lv_has ls 5 []) {r0 : Int32} {hF : zz_H} {nF : Nat} (hf : f_L_isSigned_16 t0 s0 s1 s2 h n = some (r0, hF, nF)) : W p l e rm_L_isSigned s m args below meth c H locs 2 12 (MQ below (zz_QL D dA base r0 hF nF) args s rm_L_isSigned.cells rm_L_isSigned.slots (fun q => base ≤ q)) (F0 m 16 ls [.long s0, .int s1, va_rf s2]) := by
  have hx := X.1
  have hb := X.2.1
  have hown := X.2.2.2.2.1
  unfold f_L_isSigned_16 at hf
  refine zr_last X hR (r := s2) dL_isSigned_16 hf (fun h16 H locs hf hR => ?_)
  refine lv_goto (tgt := 28) hx hb dL_isSigned_17 (by decide) ?_
  refine lv_iconst (v := (0 : Int32)) hx hb dL_isSigned_28 (by decide) ?_
  cases hf
  exact zl_iret X hR (Nat.le_refl _) dL_isSigned_29 (Nat.le_of_ble_eq_true rfl) (Nat.le_of_ble_eq_true rfl)
set_option maxHeartbeats 4000000 in
set_option maxRecDepth 100000 in
theorem mt_L_isSigned {D : va_G} {dA : Nat → ClassId} {base t0 : Nat} {l : Launch} (hT : l.stackTraces = false) (x0 : Nat) (x1 : Int32) (x2 : Int32) (x3 : Nat) (h : zz_H) (n : Nat) {r0 : Int32} {hF : zz_H} {nF : Nat} (hf : f_L_isSigned t0 x0 x1 x2 x3 h n = some (r0, hF, nF)) : zz_ML D dA base t0 l yL_isSigned cL_isSigned 5 [(0, 17, 20, 20), (0, 17, 24, 53)] rm_L_isSigned [.ref x0, .int x1, .int x2, .ref x3] h n r0 hF nF := by
  refine zz_ofH (cc := cL_isSigned) (maxL := 5) (ret := some .int) (by decide +kernel) rfl ?_
  intro p e s m args below meth c s₁ B hml hE hv
  obtain ⟨rfl, hP, hK, hN⟩ := hv
  have X : zz_X D dA base t0 "SpringseatLaw" cL_isSigned 5 (some .int) l p s m meth c := ⟨B.exec, B.bytes, hml, B.returns, findClass_of_methodNamed B.named, B.notSynchronized, hT, by rw [hP.1]; exact hP.2.1, hK⟩
  have hx := X.1
  have hb := X.2.1
  have hown := X.2.2.2.2.1
  have hR : zz_R D dA base h n s s.heap [] := ⟨hP, va_S.rf⟩
  have hl := lv_entry ([.ref x0, .int x1, .int x2, .ref x3]) (n := 5) (by exact Nat.le_of_ble_eq_true rfl)
  rw [lg_entry_eq]
  generalize (lg_sl ([.ref x0, .int x1, .int x2, .ref x3]) ++ List.replicate (5 - (lg_sl ([.ref x0, .int x1, .int x2, .ref x3])).length) Slot.unset).toArray = ls at hl ⊢
  have hl : lv_has ls 5 [(0, .ref x0), (1, .int x1), (2, .int x2), (3, .ref x3)] := hl
  unfold f_L_isSigned at hf
  refine lv_aload_n hx hb dL_isSigned_0 rfl (lv_at hl 3 rfl) ?_
  refine lv_iconst (v := (0 : Int32)) hx hb dL_isSigned_1 (by decide) ?_
  refine lv_aload_n hx hb dL_isSigned_2 rfl (lv_at hl 0 rfl) ?_
  refine lv_iload_n hx hb dL_isSigned_3 rfl (lv_at hl 1 rfl) ?_
  refine lv_iload_n hx hb dL_isSigned_4 rfl (lv_at hl 2 rfl) ?_
  obtain ⟨fs5, ho5, hf⟩ := zz_obS_i hf
  rcases zz_th_i hf with ⟨v5, hv5, hf⟩ | ⟨k5, hv5, hf⟩
  · refine zl_V X hR hl.1 (As := [.int x1, .int x2]) (rest := [.int (0 : Int32), .ref x3]) (C := RX9) (T := TX9) (N := 6) (ro := (fun v : Int32 => some (Value.int v)) v5) (mt_X9_isSigned hT x0 x1 x2 h n hv5) rfl ho5 mf_X9_isSigned q_899 q_900 q_901 ⟨Nat.le_of_ble_eq_true rfl, Nat.le_of_ble_eq_true rfl⟩ ⟨Nat.le_of_ble_eq_true rfl, Nat.le_of_ble_eq_true rfl⟩ rfl (Nat.le_of_ble_eq_true rfl) dL_isSigned_5 (fun H locs hR => ?_)
    refine W.eq (g2 := F0 m 8 ls [.int v5, .int (0 : Int32), .ref x3]) rfl ?_
    refine W.widen (k := 2) (n := 12) (Nat.le_of_ble_eq_true rfl) (Nat.le_of_ble_eq_true rfl) ?_
    refine lv_if_eq (tgt := 15) hx hb dL_isSigned_8 (by decide) (fun c8 => ?_) (fun c8 => ?_)
    · replace hf := zz_pos c8 hf
      refine lv_lconst (v := (0 : Int64)) hx hb dL_isSigned_15 (by decide) ?_
      exact bk_L_isSigned_16 X hT hR (lv_sub hl [] rfl) hf
    · replace hf := zz_neg c8 hf
      refine lv_lconst (v := (1 : Int64)) hx hb dL_isSigned_11 (by decide) ?_
      refine lv_goto (tgt := 16) hx hb dL_isSigned_12 (by decide) ?_
      exact bk_L_isSigned_16 X hT hR (lv_sub hl [] rfl) hf
  · refine zl_X X hR hl.1 (As := [.int x1, .int x2]) (rest := [.int (0 : Int32), .ref x3]) (C := RX9) (T := TX9) (N := 6) (k := k5) (mt_X9_isSigned hT x0 x1 x2 h n hv5) rfl ho5 mf_X9_isSigned q_899 q_900 q_901 ⟨Nat.le_of_ble_eq_true rfl, Nat.le_of_ble_eq_true rfl⟩ ⟨Nat.le_of_ble_eq_true rfl, Nat.le_of_ble_eq_true rfl⟩ rfl (Nat.le_of_ble_eq_true rfl) dL_isSigned_5 (fun H locs nn ce qq hnn hR hce hcv hcl => ?_)
    by_cases ck : k5 = 2
    · subst ck
      replace hf := zz_pos rfl hf
      refine zl_catch X hN hE (k := 2) [] [(0, 17, 24, 53)] (0, 17, 20, 20) rfl (by decide) (fun z hz => nomatch hz) rfl (by decide) q_576 q_591 hce hcv hcl ?_
      refine lv_astore (i := 4) (lv' := [(4, .ref qq)]) hx hb dL_isSigned_20 (lv_sub hl [] rfl) (by decide) rfl (fun ls hl => ?_)
      refine lv_iconst (v := (1 : Int32)) hx hb dL_isSigned_22 (by decide) ?_
      cases hf
      exact zl_iret X hR hnn dL_isSigned_23 (Nat.le_of_ble_eq_true rfl) (Nat.le_of_ble_eq_true rfl)
    replace hf := zz_neg ck hf
    by_cases ck : k5 = 4
    · subst ck
      replace hf := zz_pos rfl hf
      refine zl_catch X hN hE (k := 4) [(0, 17, 20, 20)] [] (0, 17, 24, 53) rfl (by decide) (by intro z hz; simp only [List.mem_cons, List.not_mem_nil, or_false] at hz; rcases hz with rfl <;> first | exact ⟨by decide, 2, by decide, by decide, q_576⟩) rfl (by decide) q_768 q_802 hce hcv hcl ?_
      refine lv_astore (i := 4) (lv' := [(4, .ref qq)]) hx hb dL_isSigned_24 (lv_sub hl [] rfl) (by decide) rfl (fun ls hl => ?_)
      refine lv_iconst (v := (2 : Int32)) hx hb dL_isSigned_26 (by decide) ?_
      cases hf
      exact zl_iret X hR hnn dL_isSigned_27 (Nat.le_of_ble_eq_true rfl) (Nat.le_of_ble_eq_true rfl)
    replace hf := zz_neg ck hf
    cases hf
def rm_L_isClosed : Room := { frames := 9, cells := 1, slots := 6, locals := 153 }
theorem mf_L_isClosed : Cond.codeWith yL_isClosed cL_isClosed 4 (some .int) [(0, 16, 19, 20)] ∈ zz_G ∧ Cond.initialized yL_isClosed.cls ∈ zz_G ∧ (yL_isClosed.cls ≠ "java/lang/invoke/MethodHandle" ∧ yL_isClosed.cls ≠ "java/lang/invoke/VarHandle" ∧ (parseMethodDescriptor yL_isClosed.desc).map (fun d => d.parameters.length) = some 3) := ⟨q_905, q_0, by decide +kernel, by decide +kernel, by decide +kernel⟩
set_option maxHeartbeats 4000000 in
set_option maxRecDepth 100000 in
theorem bk_L_isClosed_15 {D : va_G} {dA : Nat → ClassId} {base t0 : Nat} {l : Launch} {p : Program} {e : Env} {s : State} {m : MethodId} {args : Array Value} {below : List Frame} {meth : Method} {c : Code} (X : zz_X D dA base t0 "SpringseatLaw" cL_isClosed 4 (some .int) l p s m meth c) (hT : l.stackTraces = false) {s0 : Int64} {s1 : Int32} {s2 : (Option Nat)} {h : zz_H} {n : Nat} {H : Heap} {locs : List Loc} {ls : Array Slot} (hR : zz_R D dA base h n s H locs) (hl : lv_has ls 4 []) {r0 : Int32} {hF : zz_H} {nF : Nat} (hf : f_L_isClosed_15 t0 s0 s1 s2 h n = some (r0, hF, nF)) : W p l e rm_L_isClosed s m args below meth c H locs 1 6 (MQ below (zz_QL D dA base r0 hF nF) args s rm_L_isClosed.cells rm_L_isClosed.slots (fun q => base ≤ q)) (F0 m 15 ls [.long s0, .int s1, va_rf s2]) := by
  have hx := X.1
  have hb := X.2.1
  have hown := X.2.2.2.2.1
  unfold f_L_isClosed_15 at hf
  refine zr_last X hR (r := s2) dL_isClosed_15 hf (fun h15 H locs hf hR => ?_)
  refine lv_goto (tgt := 22) hx hb dL_isClosed_16 (by decide) ?_
  refine lv_iconst (v := (0 : Int32)) hx hb dL_isClosed_22 (by decide) ?_
  cases hf
  exact zl_iret X hR (Nat.le_refl _) dL_isClosed_23 (Nat.le_of_ble_eq_true rfl) (Nat.le_of_ble_eq_true rfl)
set_option maxHeartbeats 4000000 in
set_option maxRecDepth 100000 in
theorem mt_L_isClosed {D : va_G} {dA : Nat → ClassId} {base t0 : Nat} {l : Launch} (hT : l.stackTraces = false) (x0 : Nat) (x1 : Int32) (x2 : Nat) (h : zz_H) (n : Nat) {r0 : Int32} {hF : zz_H} {nF : Nat} (hf : f_L_isClosed t0 x0 x1 x2 h n = some (r0, hF, nF)) : zz_ML D dA base t0 l yL_isClosed cL_isClosed 4 [(0, 16, 19, 20)] rm_L_isClosed [.ref x0, .int x1, .ref x2] h n r0 hF nF := by
  refine zz_ofH (cc := cL_isClosed) (maxL := 4) (ret := some .int) (by decide +kernel) rfl ?_
  intro p e s m args below meth c s₁ B hml hE hv
  obtain ⟨rfl, hP, hK, hN⟩ := hv
  have X : zz_X D dA base t0 "SpringseatLaw" cL_isClosed 4 (some .int) l p s m meth c := ⟨B.exec, B.bytes, hml, B.returns, findClass_of_methodNamed B.named, B.notSynchronized, hT, by rw [hP.1]; exact hP.2.1, hK⟩
  have hx := X.1
  have hb := X.2.1
  have hown := X.2.2.2.2.1
  have hR : zz_R D dA base h n s s.heap [] := ⟨hP, va_S.rf⟩
  have hl := lv_entry ([.ref x0, .int x1, .ref x2]) (n := 4) (by exact Nat.le_of_ble_eq_true rfl)
  rw [lg_entry_eq]
  generalize (lg_sl ([.ref x0, .int x1, .ref x2]) ++ List.replicate (4 - (lg_sl ([.ref x0, .int x1, .ref x2])).length) Slot.unset).toArray = ls at hl ⊢
  have hl : lv_has ls 4 [(0, .ref x0), (1, .int x1), (2, .ref x2)] := hl
  unfold f_L_isClosed at hf
  refine lv_aload_n hx hb dL_isClosed_0 rfl (lv_at hl 2 rfl) ?_
  refine lv_iconst (v := (0 : Int32)) hx hb dL_isClosed_1 (by decide) ?_
  refine lv_aload_n hx hb dL_isClosed_2 rfl (lv_at hl 0 rfl) ?_
  refine lv_iload_n hx hb dL_isClosed_3 rfl (lv_at hl 1 rfl) ?_
  obtain ⟨fs4, ho4, hf⟩ := zz_obS_i hf
  rcases zz_th_i hf with ⟨v4, hv4, hf⟩ | ⟨k4, hv4, hf⟩
  · refine zl_V X hR hl.1 (As := [.int x1]) (rest := [.int (0 : Int32), .ref x2]) (C := RX9) (T := TX9) (N := 6) (ro := (fun v : Int32 => some (Value.int v)) v4) (mt_X9_isClosed hT x0 x1 h n hv4) rfl ho4 mf_X9_isClosed q_906 q_907 q_908 ⟨Nat.le_of_ble_eq_true rfl, Nat.le_of_ble_eq_true rfl⟩ ⟨Nat.le_of_ble_eq_true rfl, Nat.le_of_ble_eq_true rfl⟩ rfl (Nat.le_of_ble_eq_true rfl) dL_isClosed_4 (fun H locs hR => ?_)
    refine W.eq (g2 := F0 m 7 ls [.int v4, .int (0 : Int32), .ref x2]) rfl ?_
    refine W.widen (k := 1) (n := 6) (Nat.le_of_ble_eq_true rfl) (Nat.le_of_ble_eq_true rfl) ?_
    refine lv_if_eq (tgt := 14) hx hb dL_isClosed_7 (by decide) (fun c7 => ?_) (fun c7 => ?_)
    · replace hf := zz_pos c7 hf
      refine lv_lconst (v := (0 : Int64)) hx hb dL_isClosed_14 (by decide) ?_
      exact bk_L_isClosed_15 X hT hR (lv_sub hl [] rfl) hf
    · replace hf := zz_neg c7 hf
      refine lv_lconst (v := (1 : Int64)) hx hb dL_isClosed_10 (by decide) ?_
      refine lv_goto (tgt := 15) hx hb dL_isClosed_11 (by decide) ?_
      exact bk_L_isClosed_15 X hT hR (lv_sub hl [] rfl) hf
  · refine zl_X X hR hl.1 (As := [.int x1]) (rest := [.int (0 : Int32), .ref x2]) (C := RX9) (T := TX9) (N := 6) (k := k4) (mt_X9_isClosed hT x0 x1 h n hv4) rfl ho4 mf_X9_isClosed q_906 q_907 q_908 ⟨Nat.le_of_ble_eq_true rfl, Nat.le_of_ble_eq_true rfl⟩ ⟨Nat.le_of_ble_eq_true rfl, Nat.le_of_ble_eq_true rfl⟩ rfl (Nat.le_of_ble_eq_true rfl) dL_isClosed_4 (fun H locs nn ce qq hnn hR hce hcv hcl => ?_)
    by_cases ck : k4 = 2
    · subst ck
      replace hf := zz_pos rfl hf
      refine zl_catch X hN hE (k := 2) [] [] (0, 16, 19, 20) rfl (by decide) (fun z hz => nomatch hz) rfl (by decide) q_576 q_591 hce hcv hcl ?_
      refine lv_astore_n (i := 3) (lv' := [(3, .ref qq)]) hx hb dL_isClosed_19 rfl (lv_sub hl [] rfl) (by decide) rfl (fun ls hl => ?_)
      refine lv_iconst (v := (1 : Int32)) hx hb dL_isClosed_20 (by decide) ?_
      cases hf
      exact zl_iret X hR hnn dL_isClosed_21 (Nat.le_of_ble_eq_true rfl) (Nat.le_of_ble_eq_true rfl)
    replace hf := zz_neg ck hf
    cases hf
def rm_L_stands : Room := { frames := 10, cells := 3, slots := 18, locals := 177 }
theorem mf_L_stands : Cond.codeWith yL_stands cL_stands 5 (some .int) [(0, 10, 13, 20)] ∈ zz_G ∧ Cond.initialized yL_stands.cls ∈ zz_G ∧ (yL_stands.cls ≠ "java/lang/invoke/MethodHandle" ∧ yL_stands.cls ≠ "java/lang/invoke/VarHandle" ∧ (parseMethodDescriptor yL_stands.desc).map (fun d => d.parameters.length) = some 4) := ⟨q_917, q_0, by decide +kernel, by decide +kernel, by decide +kernel⟩
set_option maxHeartbeats 4000000 in
set_option maxRecDepth 100000 in
theorem mt_L_stands {D : va_G} {dA : Nat → ClassId} {base t0 : Nat} {l : Launch} (hT : l.stackTraces = false) (x0 : Nat) (x1 : Int32) (x2 : Int32) (x3 : Nat) (h : zz_H) (n : Nat) {r0 : Int32} {hF : zz_H} {nF : Nat} (hf : f_L_stands t0 x0 x1 x2 x3 h n = some (r0, hF, nF)) : zz_ML D dA base t0 l yL_stands cL_stands 5 [(0, 10, 13, 20)] rm_L_stands [.ref x0, .int x1, .int x2, .ref x3] h n r0 hF nF := by
  refine zz_ofH (cc := cL_stands) (maxL := 5) (ret := some .int) (by decide +kernel) rfl ?_
  intro p e s m args below meth c s₁ B hml hE hv
  obtain ⟨rfl, hP, hK, hN⟩ := hv
  have X : zz_X D dA base t0 "SpringseatLaw" cL_stands 5 (some .int) l p s m meth c := ⟨B.exec, B.bytes, hml, B.returns, findClass_of_methodNamed B.named, B.notSynchronized, hT, by rw [hP.1]; exact hP.2.1, hK⟩
  have hx := X.1
  have hb := X.2.1
  have hown := X.2.2.2.2.1
  have hR : zz_R D dA base h n s s.heap [] := ⟨hP, va_S.rf⟩
  have hl := lv_entry ([.ref x0, .int x1, .int x2, .ref x3]) (n := 5) (by exact Nat.le_of_ble_eq_true rfl)
  rw [lg_entry_eq]
  generalize (lg_sl ([.ref x0, .int x1, .int x2, .ref x3]) ++ List.replicate (5 - (lg_sl ([.ref x0, .int x1, .int x2, .ref x3])).length) Slot.unset).toArray = ls at hl ⊢
  have hl : lv_has ls 5 [(0, .ref x0), (1, .int x1), (2, .int x2), (3, .ref x3)] := hl
  unfold f_L_stands at hf
  refine lv_aload_n hx hb dL_stands_0 rfl (lv_at hl 3 rfl) ?_
  refine lv_iconst (v := (0 : Int32)) hx hb dL_stands_1 (by decide) ?_
  refine lv_aload_n hx hb dL_stands_2 rfl (lv_at hl 0 rfl) ?_
  refine lv_iload_n hx hb dL_stands_3 rfl (lv_at hl 1 rfl) ?_
  refine lv_iload_n hx hb dL_stands_4 rfl (lv_at hl 2 rfl) ?_
  obtain ⟨fs5, ho5, hf⟩ := zz_obS_i hf
  rcases zz_th_i hf with ⟨v5, hv5, hf⟩ | ⟨k5, hv5, hf⟩
  · refine zl_V X hR hl.1 (As := [.int x1, .int x2]) (rest := [.int (0 : Int32), .ref x3]) (C := RX9) (T := TX9) (N := 6) (ro := (fun v : Int32 => some (Value.int v)) v5) (mt_X9_stands hT x0 x1 x2 h n hv5) rfl ho5 mf_X9_stands q_918 q_919 q_920 ⟨Nat.le_of_ble_eq_true rfl, Nat.le_of_ble_eq_true rfl⟩ ⟨Nat.le_of_ble_eq_true rfl, Nat.le_of_ble_eq_true rfl⟩ rfl (Nat.le_of_ble_eq_true rfl) dL_stands_5 (fun H locs hR => ?_)
    refine W.eq (g2 := F0 m 8 ls [.int v5, .int (0 : Int32), .ref x3]) rfl ?_
    refine W.widen (k := 3) (n := 18) (Nat.le_of_ble_eq_true rfl) (Nat.le_of_ble_eq_true rfl) ?_
    refine lv_i2l hx hb dL_stands_8 rfl ?_
    refine zr_last X hR (r := (some x3)) dL_stands_9 hf (fun h9 H locs hf hR => ?_)
    refine lv_goto (tgt := 17) hx hb dL_stands_10 (by decide) ?_
    refine lv_iconst (v := (0 : Int32)) hx hb dL_stands_17 (by decide) ?_
    cases hf
    exact zl_iret X hR (Nat.le_refl _) dL_stands_18 (Nat.le_of_ble_eq_true rfl) (Nat.le_of_ble_eq_true rfl)
  · refine zl_X X hR hl.1 (As := [.int x1, .int x2]) (rest := [.int (0 : Int32), .ref x3]) (C := RX9) (T := TX9) (N := 6) (k := k5) (mt_X9_stands hT x0 x1 x2 h n hv5) rfl ho5 mf_X9_stands q_918 q_919 q_920 ⟨Nat.le_of_ble_eq_true rfl, Nat.le_of_ble_eq_true rfl⟩ ⟨Nat.le_of_ble_eq_true rfl, Nat.le_of_ble_eq_true rfl⟩ rfl (Nat.le_of_ble_eq_true rfl) dL_stands_5 (fun H locs nn ce qq hnn hR hce hcv hcl => ?_)
    by_cases ck : k5 = 2
    · subst ck
      replace hf := zz_pos rfl hf
      refine zl_catch X hN hE (k := 2) [] [] (0, 10, 13, 20) rfl (by decide) (fun z hz => nomatch hz) rfl (by decide) q_576 q_591 hce hcv hcl ?_
      refine lv_astore (i := 4) (lv' := [(4, .ref qq)]) hx hb dL_stands_13 (lv_sub hl [] rfl) (by decide) rfl (fun ls hl => ?_)
      refine lv_iconst (v := (1 : Int32)) hx hb dL_stands_15 (by decide) ?_
      cases hf
      exact zl_iret X hR hnn dL_stands_16 (Nat.le_of_ble_eq_true rfl) (Nat.le_of_ble_eq_true rfl)
    replace hf := zz_neg ck hf
    cases hf
def rm_L_thick : Room := { frames := 9, cells := 2, slots := 12, locals := 154 }
theorem mf_L_thick : Cond.codeWith yL_thick cL_thick 5 (some .int) [(0, 10, 13, 20), (0, 10, 17, 53)] ∈ zz_G ∧ Cond.initialized yL_thick.cls ∈ zz_G ∧ (yL_thick.cls ≠ "java/lang/invoke/MethodHandle" ∧ yL_thick.cls ≠ "java/lang/invoke/VarHandle" ∧ (parseMethodDescriptor yL_thick.desc).map (fun d => d.parameters.length) = some 4) := ⟨q_925, q_0, by decide +kernel, by decide +kernel, by decide +kernel⟩
set_option maxHeartbeats 4000000 in
set_option maxRecDepth 100000 in
theorem mt_L_thick {D : va_G} {dA : Nat → ClassId} {base t0 : Nat} {l : Launch} (hT : l.stackTraces = false) (x0 : Nat) (x1 : Int32) (x2 : Int32) (x3 : Nat) (h : zz_H) (n : Nat) {r0 : Int32} {hF : zz_H} {nF : Nat} (hf : f_L_thick t0 x0 x1 x2 x3 h n = some (r0, hF, nF)) : zz_ML D dA base t0 l yL_thick cL_thick 5 [(0, 10, 13, 20), (0, 10, 17, 53)] rm_L_thick [.ref x0, .int x1, .int x2, .ref x3] h n r0 hF nF := by
  refine zz_ofH (cc := cL_thick) (maxL := 5) (ret := some .int) (by decide +kernel) rfl ?_
  intro p e s m args below meth c s₁ B hml hE hv
  obtain ⟨rfl, hP, hK, hN⟩ := hv
  have X : zz_X D dA base t0 "SpringseatLaw" cL_thick 5 (some .int) l p s m meth c := ⟨B.exec, B.bytes, hml, B.returns, findClass_of_methodNamed B.named, B.notSynchronized, hT, by rw [hP.1]; exact hP.2.1, hK⟩
  have hx := X.1
  have hb := X.2.1
  have hown := X.2.2.2.2.1
  have hR : zz_R D dA base h n s s.heap [] := ⟨hP, va_S.rf⟩
  have hl := lv_entry ([.ref x0, .int x1, .int x2, .ref x3]) (n := 5) (by exact Nat.le_of_ble_eq_true rfl)
  rw [lg_entry_eq]
  generalize (lg_sl ([.ref x0, .int x1, .int x2, .ref x3]) ++ List.replicate (5 - (lg_sl ([.ref x0, .int x1, .int x2, .ref x3])).length) Slot.unset).toArray = ls at hl ⊢
  have hl : lv_has ls 5 [(0, .ref x0), (1, .int x1), (2, .int x2), (3, .ref x3)] := hl
  unfold f_L_thick at hf
  refine lv_aload_n hx hb dL_thick_0 rfl (lv_at hl 3 rfl) ?_
  refine lv_iconst (v := (0 : Int32)) hx hb dL_thick_1 (by decide) ?_
  refine lv_aload_n hx hb dL_thick_2 rfl (lv_at hl 0 rfl) ?_
  refine lv_iload_n hx hb dL_thick_3 rfl (lv_at hl 1 rfl) ?_
  refine lv_iload_n hx hb dL_thick_4 rfl (lv_at hl 2 rfl) ?_
  obtain ⟨fs5, ho5, hf⟩ := zz_obS_i hf
  rcases zz_th_i hf with ⟨v5, hv5, hf⟩ | ⟨k5, hv5, hf⟩
  · refine zl_V X hR hl.1 (As := [.int x1, .int x2]) (rest := [.int (0 : Int32), .ref x3]) (C := RX9) (T := TX9) (N := 6) (ro := (fun v : Int32 => some (Value.int v)) v5) (mt_X9_thick hT x0 x1 x2 h n hv5) rfl ho5 mf_X9_thick q_926 q_927 q_928 ⟨Nat.le_of_ble_eq_true rfl, Nat.le_of_ble_eq_true rfl⟩ ⟨Nat.le_of_ble_eq_true rfl, Nat.le_of_ble_eq_true rfl⟩ rfl (Nat.le_of_ble_eq_true rfl) dL_thick_5 (fun H locs hR => ?_)
    refine W.eq (g2 := F0 m 8 ls [.int v5, .int (0 : Int32), .ref x3]) rfl ?_
    refine W.widen (k := 2) (n := 12) (Nat.le_of_ble_eq_true rfl) (Nat.le_of_ble_eq_true rfl) ?_
    refine lv_i2l hx hb dL_thick_8 rfl ?_
    refine zr_last X hR (r := (some x3)) dL_thick_9 hf (fun h9 H locs hf hR => ?_)
    refine lv_goto (tgt := 21) hx hb dL_thick_10 (by decide) ?_
    refine lv_iconst (v := (0 : Int32)) hx hb dL_thick_21 (by decide) ?_
    cases hf
    exact zl_iret X hR (Nat.le_refl _) dL_thick_22 (Nat.le_of_ble_eq_true rfl) (Nat.le_of_ble_eq_true rfl)
  · refine zl_X X hR hl.1 (As := [.int x1, .int x2]) (rest := [.int (0 : Int32), .ref x3]) (C := RX9) (T := TX9) (N := 6) (k := k5) (mt_X9_thick hT x0 x1 x2 h n hv5) rfl ho5 mf_X9_thick q_926 q_927 q_928 ⟨Nat.le_of_ble_eq_true rfl, Nat.le_of_ble_eq_true rfl⟩ ⟨Nat.le_of_ble_eq_true rfl, Nat.le_of_ble_eq_true rfl⟩ rfl (Nat.le_of_ble_eq_true rfl) dL_thick_5 (fun H locs nn ce qq hnn hR hce hcv hcl => ?_)
    by_cases ck : k5 = 2
    · subst ck
      replace hf := zz_pos rfl hf
      refine zl_catch X hN hE (k := 2) [] [(0, 10, 17, 53)] (0, 10, 13, 20) rfl (by decide) (fun z hz => nomatch hz) rfl (by decide) q_576 q_591 hce hcv hcl ?_
      refine lv_astore (i := 4) (lv' := [(4, .ref qq)]) hx hb dL_thick_13 (lv_sub hl [] rfl) (by decide) rfl (fun ls hl => ?_)
      refine lv_iconst (v := (1 : Int32)) hx hb dL_thick_15 (by decide) ?_
      cases hf
      exact zl_iret X hR hnn dL_thick_16 (Nat.le_of_ble_eq_true rfl) (Nat.le_of_ble_eq_true rfl)
    replace hf := zz_neg ck hf
    by_cases ck : k5 = 4
    · subst ck
      replace hf := zz_pos rfl hf
      refine zl_catch X hN hE (k := 4) [(0, 10, 13, 20)] [] (0, 10, 17, 53) rfl (by decide) (by intro z hz; simp only [List.mem_cons, List.not_mem_nil, or_false] at hz; rcases hz with rfl <;> first | exact ⟨by decide, 2, by decide, by decide, q_576⟩) rfl (by decide) q_768 q_802 hce hcv hcl ?_
      refine lv_astore (i := 4) (lv' := [(4, .ref qq)]) hx hb dL_thick_17 (lv_sub hl [] rfl) (by decide) rfl (fun ls hl => ?_)
      refine lv_iconst (v := (2 : Int32)) hx hb dL_thick_19 (by decide) ?_
      cases hf
      exact zl_iret X hR hnn dL_thick_20 (Nat.le_of_ble_eq_true rfl) (Nat.le_of_ble_eq_true rfl)
    replace hf := zz_neg ck hf
    cases hf
def rm_L_top : Room := { frames := 10, cells := 3, slots := 18, locals := 177 }
theorem mf_L_top : Cond.codeWith yL_top cL_top 5 (some .int) [(0, 10, 13, 20)] ∈ zz_G ∧ Cond.initialized yL_top.cls ∈ zz_G ∧ (yL_top.cls ≠ "java/lang/invoke/MethodHandle" ∧ yL_top.cls ≠ "java/lang/invoke/VarHandle" ∧ (parseMethodDescriptor yL_top.desc).map (fun d => d.parameters.length) = some 4) := ⟨q_939, q_0, by decide +kernel, by decide +kernel, by decide +kernel⟩
set_option maxHeartbeats 4000000 in
set_option maxRecDepth 100000 in
theorem mt_L_top {D : va_G} {dA : Nat → ClassId} {base t0 : Nat} {l : Launch} (hT : l.stackTraces = false) (x0 : Nat) (x1 : Int32) (x2 : Int32) (x3 : Nat) (h : zz_H) (n : Nat) {r0 : Int32} {hF : zz_H} {nF : Nat} (hf : f_L_top t0 x0 x1 x2 x3 h n = some (r0, hF, nF)) : zz_ML D dA base t0 l yL_top cL_top 5 [(0, 10, 13, 20)] rm_L_top [.ref x0, .int x1, .int x2, .ref x3] h n r0 hF nF := by
  refine zz_ofH (cc := cL_top) (maxL := 5) (ret := some .int) (by decide +kernel) rfl ?_
  intro p e s m args below meth c s₁ B hml hE hv
  obtain ⟨rfl, hP, hK, hN⟩ := hv
  have X : zz_X D dA base t0 "SpringseatLaw" cL_top 5 (some .int) l p s m meth c := ⟨B.exec, B.bytes, hml, B.returns, findClass_of_methodNamed B.named, B.notSynchronized, hT, by rw [hP.1]; exact hP.2.1, hK⟩
  have hx := X.1
  have hb := X.2.1
  have hown := X.2.2.2.2.1
  have hR : zz_R D dA base h n s s.heap [] := ⟨hP, va_S.rf⟩
  have hl := lv_entry ([.ref x0, .int x1, .int x2, .ref x3]) (n := 5) (by exact Nat.le_of_ble_eq_true rfl)
  rw [lg_entry_eq]
  generalize (lg_sl ([.ref x0, .int x1, .int x2, .ref x3]) ++ List.replicate (5 - (lg_sl ([.ref x0, .int x1, .int x2, .ref x3])).length) Slot.unset).toArray = ls at hl ⊢
  have hl : lv_has ls 5 [(0, .ref x0), (1, .int x1), (2, .int x2), (3, .ref x3)] := hl
  unfold f_L_top at hf
  refine lv_aload_n hx hb dL_top_0 rfl (lv_at hl 3 rfl) ?_
  refine lv_iconst (v := (0 : Int32)) hx hb dL_top_1 (by decide) ?_
  refine lv_aload_n hx hb dL_top_2 rfl (lv_at hl 0 rfl) ?_
  refine lv_iload_n hx hb dL_top_3 rfl (lv_at hl 1 rfl) ?_
  refine lv_iload_n hx hb dL_top_4 rfl (lv_at hl 2 rfl) ?_
  obtain ⟨fs5, ho5, hf⟩ := zz_obS_i hf
  rcases zz_th_i hf with ⟨v5, hv5, hf⟩ | ⟨k5, hv5, hf⟩
  · refine zl_V X hR hl.1 (As := [.int x1, .int x2]) (rest := [.int (0 : Int32), .ref x3]) (C := RX9) (T := TX9) (N := 6) (ro := (fun v : Int32 => some (Value.int v)) v5) (mt_X9_top hT x0 x1 x2 h n hv5) rfl ho5 mf_X9_top q_940 q_941 q_942 ⟨Nat.le_of_ble_eq_true rfl, Nat.le_of_ble_eq_true rfl⟩ ⟨Nat.le_of_ble_eq_true rfl, Nat.le_of_ble_eq_true rfl⟩ rfl (Nat.le_of_ble_eq_true rfl) dL_top_5 (fun H locs hR => ?_)
    refine W.eq (g2 := F0 m 8 ls [.int v5, .int (0 : Int32), .ref x3]) rfl ?_
    refine W.widen (k := 3) (n := 18) (Nat.le_of_ble_eq_true rfl) (Nat.le_of_ble_eq_true rfl) ?_
    refine lv_i2l hx hb dL_top_8 rfl ?_
    refine zr_last X hR (r := (some x3)) dL_top_9 hf (fun h9 H locs hf hR => ?_)
    refine lv_goto (tgt := 17) hx hb dL_top_10 (by decide) ?_
    refine lv_iconst (v := (0 : Int32)) hx hb dL_top_17 (by decide) ?_
    cases hf
    exact zl_iret X hR (Nat.le_refl _) dL_top_18 (Nat.le_of_ble_eq_true rfl) (Nat.le_of_ble_eq_true rfl)
  · refine zl_X X hR hl.1 (As := [.int x1, .int x2]) (rest := [.int (0 : Int32), .ref x3]) (C := RX9) (T := TX9) (N := 6) (k := k5) (mt_X9_top hT x0 x1 x2 h n hv5) rfl ho5 mf_X9_top q_940 q_941 q_942 ⟨Nat.le_of_ble_eq_true rfl, Nat.le_of_ble_eq_true rfl⟩ ⟨Nat.le_of_ble_eq_true rfl, Nat.le_of_ble_eq_true rfl⟩ rfl (Nat.le_of_ble_eq_true rfl) dL_top_5 (fun H locs nn ce qq hnn hR hce hcv hcl => ?_)
    by_cases ck : k5 = 2
    · subst ck
      replace hf := zz_pos rfl hf
      refine zl_catch X hN hE (k := 2) [] [] (0, 10, 13, 20) rfl (by decide) (fun z hz => nomatch hz) rfl (by decide) q_576 q_591 hce hcv hcl ?_
      refine lv_astore (i := 4) (lv' := [(4, .ref qq)]) hx hb dL_top_13 (lv_sub hl [] rfl) (by decide) rfl (fun ls hl => ?_)
      refine lv_iconst (v := (1 : Int32)) hx hb dL_top_15 (by decide) ?_
      cases hf
      exact zl_iret X hR hnn dL_top_16 (Nat.le_of_ble_eq_true rfl) (Nat.le_of_ble_eq_true rfl)
    replace hf := zz_neg ck hf
    cases hf
def rm_L_folds : Room := { frames := 9, cells := 1, slots := 6, locals := 154 }
theorem mf_L_folds : Cond.codeWith yL_folds cL_folds 5 (some .int) [(0, 10, 13, 20)] ∈ zz_G ∧ Cond.initialized yL_folds.cls ∈ zz_G ∧ (yL_folds.cls ≠ "java/lang/invoke/MethodHandle" ∧ yL_folds.cls ≠ "java/lang/invoke/VarHandle" ∧ (parseMethodDescriptor yL_folds.desc).map (fun d => d.parameters.length) = some 4) := ⟨q_946, q_0, by decide +kernel, by decide +kernel, by decide +kernel⟩
set_option maxHeartbeats 4000000 in
set_option maxRecDepth 100000 in
theorem mt_L_folds {D : va_G} {dA : Nat → ClassId} {base t0 : Nat} {l : Launch} (hT : l.stackTraces = false) (x0 : Nat) (x1 : Int32) (x2 : Int32) (x3 : Nat) (h : zz_H) (n : Nat) {r0 : Int32} {hF : zz_H} {nF : Nat} (hf : f_L_folds t0 x0 x1 x2 x3 h n = some (r0, hF, nF)) : zz_ML D dA base t0 l yL_folds cL_folds 5 [(0, 10, 13, 20)] rm_L_folds [.ref x0, .int x1, .int x2, .ref x3] h n r0 hF nF := by
  refine zz_ofH (cc := cL_folds) (maxL := 5) (ret := some .int) (by decide +kernel) rfl ?_
  intro p e s m args below meth c s₁ B hml hE hv
  obtain ⟨rfl, hP, hK, hN⟩ := hv
  have X : zz_X D dA base t0 "SpringseatLaw" cL_folds 5 (some .int) l p s m meth c := ⟨B.exec, B.bytes, hml, B.returns, findClass_of_methodNamed B.named, B.notSynchronized, hT, by rw [hP.1]; exact hP.2.1, hK⟩
  have hx := X.1
  have hb := X.2.1
  have hown := X.2.2.2.2.1
  have hR : zz_R D dA base h n s s.heap [] := ⟨hP, va_S.rf⟩
  have hl := lv_entry ([.ref x0, .int x1, .int x2, .ref x3]) (n := 5) (by exact Nat.le_of_ble_eq_true rfl)
  rw [lg_entry_eq]
  generalize (lg_sl ([.ref x0, .int x1, .int x2, .ref x3]) ++ List.replicate (5 - (lg_sl ([.ref x0, .int x1, .int x2, .ref x3])).length) Slot.unset).toArray = ls at hl ⊢
  have hl : lv_has ls 5 [(0, .ref x0), (1, .int x1), (2, .int x2), (3, .ref x3)] := hl
  unfold f_L_folds at hf
  refine lv_aload_n hx hb dL_folds_0 rfl (lv_at hl 3 rfl) ?_
  refine lv_iconst (v := (0 : Int32)) hx hb dL_folds_1 (by decide) ?_
  refine lv_aload_n hx hb dL_folds_2 rfl (lv_at hl 0 rfl) ?_
  refine lv_iload_n hx hb dL_folds_3 rfl (lv_at hl 1 rfl) ?_
  refine lv_iload_n hx hb dL_folds_4 rfl (lv_at hl 2 rfl) ?_
  obtain ⟨fs5, ho5, hf⟩ := zz_obS_i hf
  rcases zz_th_i hf with ⟨v5, hv5, hf⟩ | ⟨k5, hv5, hf⟩
  · refine zl_V X hR hl.1 (As := [.int x1, .int x2]) (rest := [.int (0 : Int32), .ref x3]) (C := RX9) (T := TX9) (N := 6) (ro := (fun v : Int32 => some (Value.int v)) v5) (mt_X9_folds hT x0 x1 x2 h n hv5) rfl ho5 mf_X9_folds q_947 q_948 q_949 ⟨Nat.le_of_ble_eq_true rfl, Nat.le_of_ble_eq_true rfl⟩ ⟨Nat.le_of_ble_eq_true rfl, Nat.le_of_ble_eq_true rfl⟩ rfl (Nat.le_of_ble_eq_true rfl) dL_folds_5 (fun H locs hR => ?_)
    refine W.eq (g2 := F0 m 8 ls [.int v5, .int (0 : Int32), .ref x3]) rfl ?_
    refine W.widen (k := 1) (n := 6) (Nat.le_of_ble_eq_true rfl) (Nat.le_of_ble_eq_true rfl) ?_
    refine lv_i2l hx hb dL_folds_8 rfl ?_
    refine zr_last X hR (r := (some x3)) dL_folds_9 hf (fun h9 H locs hf hR => ?_)
    refine lv_goto (tgt := 17) hx hb dL_folds_10 (by decide) ?_
    refine lv_iconst (v := (0 : Int32)) hx hb dL_folds_17 (by decide) ?_
    cases hf
    exact zl_iret X hR (Nat.le_refl _) dL_folds_18 (Nat.le_of_ble_eq_true rfl) (Nat.le_of_ble_eq_true rfl)
  · refine zl_X X hR hl.1 (As := [.int x1, .int x2]) (rest := [.int (0 : Int32), .ref x3]) (C := RX9) (T := TX9) (N := 6) (k := k5) (mt_X9_folds hT x0 x1 x2 h n hv5) rfl ho5 mf_X9_folds q_947 q_948 q_949 ⟨Nat.le_of_ble_eq_true rfl, Nat.le_of_ble_eq_true rfl⟩ ⟨Nat.le_of_ble_eq_true rfl, Nat.le_of_ble_eq_true rfl⟩ rfl (Nat.le_of_ble_eq_true rfl) dL_folds_5 (fun H locs nn ce qq hnn hR hce hcv hcl => ?_)
    by_cases ck : k5 = 2
    · subst ck
      replace hf := zz_pos rfl hf
      refine zl_catch X hN hE (k := 2) [] [] (0, 10, 13, 20) rfl (by decide) (fun z hz => nomatch hz) rfl (by decide) q_576 q_591 hce hcv hcl ?_
      refine lv_astore (i := 4) (lv' := [(4, .ref qq)]) hx hb dL_folds_13 (lv_sub hl [] rfl) (by decide) rfl (fun ls hl => ?_)
      refine lv_iconst (v := (1 : Int32)) hx hb dL_folds_15 (by decide) ?_
      cases hf
      exact zl_iret X hR hnn dL_folds_16 (Nat.le_of_ble_eq_true rfl) (Nat.le_of_ble_eq_true rfl)
    replace hf := zz_neg ck hf
    cases hf
def rm_L_buttonAt : Room := { frames := 10, cells := 4, slots := 24, locals := 178 }
theorem mf_L_buttonAt : Cond.codeWith yL_buttonAt cL_buttonAt 5 (some .int) [(0, 10, 13, 20), (0, 10, 17, 53)] ∈ zz_G ∧ Cond.initialized yL_buttonAt.cls ∈ zz_G ∧ (yL_buttonAt.cls ≠ "java/lang/invoke/MethodHandle" ∧ yL_buttonAt.cls ≠ "java/lang/invoke/VarHandle" ∧ (parseMethodDescriptor yL_buttonAt.desc).map (fun d => d.parameters.length) = some 4) := ⟨q_961, q_0, by decide +kernel, by decide +kernel, by decide +kernel⟩
set_option maxHeartbeats 4000000 in
set_option maxRecDepth 100000 in
theorem mt_L_buttonAt {D : va_G} {dA : Nat → ClassId} {base t0 : Nat} {l : Launch} (hT : l.stackTraces = false) (x0 : Nat) (x1 : Int32) (x2 : Int32) (x3 : Nat) (h : zz_H) (n : Nat) {r0 : Int32} {hF : zz_H} {nF : Nat} (hf : f_L_buttonAt t0 x0 x1 x2 x3 h n = some (r0, hF, nF)) : zz_ML D dA base t0 l yL_buttonAt cL_buttonAt 5 [(0, 10, 13, 20), (0, 10, 17, 53)] rm_L_buttonAt [.ref x0, .int x1, .int x2, .ref x3] h n r0 hF nF := by
  refine zz_ofH (cc := cL_buttonAt) (maxL := 5) (ret := some .int) (by decide +kernel) rfl ?_
  intro p e s m args below meth c s₁ B hml hE hv
  obtain ⟨rfl, hP, hK, hN⟩ := hv
  have X : zz_X D dA base t0 "SpringseatLaw" cL_buttonAt 5 (some .int) l p s m meth c := ⟨B.exec, B.bytes, hml, B.returns, findClass_of_methodNamed B.named, B.notSynchronized, hT, by rw [hP.1]; exact hP.2.1, hK⟩
  have hx := X.1
  have hb := X.2.1
  have hown := X.2.2.2.2.1
  have hR : zz_R D dA base h n s s.heap [] := ⟨hP, va_S.rf⟩
  have hl := lv_entry ([.ref x0, .int x1, .int x2, .ref x3]) (n := 5) (by exact Nat.le_of_ble_eq_true rfl)
  rw [lg_entry_eq]
  generalize (lg_sl ([.ref x0, .int x1, .int x2, .ref x3]) ++ List.replicate (5 - (lg_sl ([.ref x0, .int x1, .int x2, .ref x3])).length) Slot.unset).toArray = ls at hl ⊢
  have hl : lv_has ls 5 [(0, .ref x0), (1, .int x1), (2, .int x2), (3, .ref x3)] := hl
  unfold f_L_buttonAt at hf
  refine lv_aload_n hx hb dL_buttonAt_0 rfl (lv_at hl 3 rfl) ?_
  refine lv_iconst (v := (0 : Int32)) hx hb dL_buttonAt_1 (by decide) ?_
  refine lv_aload_n hx hb dL_buttonAt_2 rfl (lv_at hl 0 rfl) ?_
  refine lv_iload_n hx hb dL_buttonAt_3 rfl (lv_at hl 1 rfl) ?_
  refine lv_iload_n hx hb dL_buttonAt_4 rfl (lv_at hl 2 rfl) ?_
  obtain ⟨fs5, ho5, hf⟩ := zz_obS_i hf
  rcases zz_th_i hf with ⟨v5, hv5, hf⟩ | ⟨k5, hv5, hf⟩
  · refine zl_V X hR hl.1 (As := [.int x1, .int x2]) (rest := [.int (0 : Int32), .ref x3]) (C := RX9) (T := TX9) (N := 6) (ro := (fun v : Int32 => some (Value.int v)) v5) (mt_X9_buttonAt hT x0 x1 x2 h n hv5) rfl ho5 mf_X9_buttonAt q_962 q_963 q_964 ⟨Nat.le_of_ble_eq_true rfl, Nat.le_of_ble_eq_true rfl⟩ ⟨Nat.le_of_ble_eq_true rfl, Nat.le_of_ble_eq_true rfl⟩ rfl (Nat.le_of_ble_eq_true rfl) dL_buttonAt_5 (fun H locs hR => ?_)
    refine W.eq (g2 := F0 m 8 ls [.int v5, .int (0 : Int32), .ref x3]) rfl ?_
    refine W.widen (k := 4) (n := 24) (Nat.le_of_ble_eq_true rfl) (Nat.le_of_ble_eq_true rfl) ?_
    refine lv_i2l hx hb dL_buttonAt_8 rfl ?_
    refine zr_last X hR (r := (some x3)) dL_buttonAt_9 hf (fun h9 H locs hf hR => ?_)
    refine lv_goto (tgt := 21) hx hb dL_buttonAt_10 (by decide) ?_
    refine lv_iconst (v := (0 : Int32)) hx hb dL_buttonAt_21 (by decide) ?_
    cases hf
    exact zl_iret X hR (Nat.le_refl _) dL_buttonAt_22 (Nat.le_of_ble_eq_true rfl) (Nat.le_of_ble_eq_true rfl)
  · refine zl_X X hR hl.1 (As := [.int x1, .int x2]) (rest := [.int (0 : Int32), .ref x3]) (C := RX9) (T := TX9) (N := 6) (k := k5) (mt_X9_buttonAt hT x0 x1 x2 h n hv5) rfl ho5 mf_X9_buttonAt q_962 q_963 q_964 ⟨Nat.le_of_ble_eq_true rfl, Nat.le_of_ble_eq_true rfl⟩ ⟨Nat.le_of_ble_eq_true rfl, Nat.le_of_ble_eq_true rfl⟩ rfl (Nat.le_of_ble_eq_true rfl) dL_buttonAt_5 (fun H locs nn ce qq hnn hR hce hcv hcl => ?_)
    by_cases ck : k5 = 2
    · subst ck
      replace hf := zz_pos rfl hf
      refine zl_catch X hN hE (k := 2) [] [(0, 10, 17, 53)] (0, 10, 13, 20) rfl (by decide) (fun z hz => nomatch hz) rfl (by decide) q_576 q_591 hce hcv hcl ?_
      refine lv_astore (i := 4) (lv' := [(4, .ref qq)]) hx hb dL_buttonAt_13 (lv_sub hl [] rfl) (by decide) rfl (fun ls hl => ?_)
      refine lv_iconst (v := (1 : Int32)) hx hb dL_buttonAt_15 (by decide) ?_
      cases hf
      exact zl_iret X hR hnn dL_buttonAt_16 (Nat.le_of_ble_eq_true rfl) (Nat.le_of_ble_eq_true rfl)
    replace hf := zz_neg ck hf
    by_cases ck : k5 = 4
    · subst ck
      replace hf := zz_pos rfl hf
      refine zl_catch X hN hE (k := 4) [(0, 10, 13, 20)] [] (0, 10, 17, 53) rfl (by decide) (by intro z hz; simp only [List.mem_cons, List.not_mem_nil, or_false] at hz; rcases hz with rfl <;> first | exact ⟨by decide, 2, by decide, by decide, q_576⟩) rfl (by decide) q_768 q_802 hce hcv hcl ?_
      refine lv_astore (i := 4) (lv' := [(4, .ref qq)]) hx hb dL_buttonAt_17 (lv_sub hl [] rfl) (by decide) rfl (fun ls hl => ?_)
      refine lv_iconst (v := (2 : Int32)) hx hb dL_buttonAt_19 (by decide) ?_
      cases hf
      exact zl_iret X hR hnn dL_buttonAt_20 (Nat.le_of_ble_eq_true rfl) (Nat.le_of_ble_eq_true rfl)
    replace hf := zz_neg ck hf
    cases hf
def rm_L_body : Room := { frames := 8, cells := 4, slots := 73, locals := 131 }
theorem mf_L_body : Cond.codeWith yL_body cL_body 3 (some .int) [(0, 8, 11, 15)] ∈ zz_G ∧ Cond.initialized yL_body.cls ∈ zz_G ∧ (yL_body.cls ≠ "java/lang/invoke/MethodHandle" ∧ yL_body.cls ≠ "java/lang/invoke/VarHandle" ∧ (parseMethodDescriptor yL_body.desc).map (fun d => d.parameters.length) = some 2) := ⟨q_969, q_0, by decide +kernel, by decide +kernel, by decide +kernel⟩
set_option maxHeartbeats 4000000 in
set_option maxRecDepth 100000 in
theorem mt_L_body {D : va_G} {dA : Nat → ClassId} {base t0 : Nat} {l : Launch} (hT : l.stackTraces = false) (x0 : Nat) (x1 : Nat) (h : zz_H) (n : Nat) {r0 : Int32} {hF : zz_H} {nF : Nat} (hf : f_L_body t0 x0 x1 h n = some (r0, hF, nF)) : zz_ML D dA base t0 l yL_body cL_body 3 [(0, 8, 11, 15)] rm_L_body [.ref x0, .ref x1] h n r0 hF nF := by
  refine zz_ofH (cc := cL_body) (maxL := 3) (ret := some .int) (by decide +kernel) rfl ?_
  intro p e s m args below meth c s₁ B hml hE hv
  obtain ⟨rfl, hP, hK, hN⟩ := hv
  have X : zz_X D dA base t0 "SpringseatLaw" cL_body 3 (some .int) l p s m meth c := ⟨B.exec, B.bytes, hml, B.returns, findClass_of_methodNamed B.named, B.notSynchronized, hT, by rw [hP.1]; exact hP.2.1, hK⟩
  have hx := X.1
  have hb := X.2.1
  have hown := X.2.2.2.2.1
  have hR : zz_R D dA base h n s s.heap [] := ⟨hP, va_S.rf⟩
  have hl := lv_entry ([.ref x0, .ref x1]) (n := 3) (by exact Nat.le_of_ble_eq_true rfl)
  rw [lg_entry_eq]
  generalize (lg_sl ([.ref x0, .ref x1]) ++ List.replicate (3 - (lg_sl ([.ref x0, .ref x1])).length) Slot.unset).toArray = ls at hl ⊢
  have hl : lv_has ls 3 [(0, .ref x0), (1, .ref x1)] := hl
  unfold f_L_body at hf
  refine lv_aload_n hx hb dL_body_0 rfl (lv_at hl 1 rfl) ?_
  refine lv_iconst (v := (0 : Int32)) hx hb dL_body_1 (by decide) ?_
  refine lv_aload_n hx hb dL_body_2 rfl (lv_at hl 0 rfl) ?_
  obtain ⟨fs3, ho3, hf⟩ := zz_obS_i hf
  rcases zz_th2_i hf with ⟨v3, h3, n3, hv3, hf⟩ | ⟨k3, h3, n3, hv3, hf⟩
  · refine zl_V X hR hl.1 (As := []) (rest := [.int (0 : Int32), .ref x1]) (C := RX9) (T := TX9) (N := 6) (ro := (fun v : Int32 => some (Value.int v)) v3) (mt_X9_body hT x0 h n hv3) rfl ho3 mf_X9_body q_970 q_971 q_972 ⟨Nat.le_of_ble_eq_true rfl, Nat.le_of_ble_eq_true rfl⟩ ⟨Nat.le_of_ble_eq_true rfl, Nat.le_of_ble_eq_true rfl⟩ rfl (Nat.le_of_ble_eq_true rfl) dL_body_3 (fun H locs hR => ?_)
    refine W.eq (g2 := F0 m 6 ls [.int v3, .int (0 : Int32), .ref x1]) rfl ?_
    refine W.widen (k := 4) (n := 73) (Nat.le_of_ble_eq_true rfl) (Nat.le_of_ble_eq_true rfl) ?_
    refine lv_i2l hx hb dL_body_6 rfl ?_
    refine zr_last X hR (r := (some x1)) dL_body_7 hf (fun h7 H locs hf hR => ?_)
    refine lv_goto (tgt := 14) hx hb dL_body_8 (by decide) ?_
    refine lv_iconst (v := (0 : Int32)) hx hb dL_body_14 (by decide) ?_
    cases hf
    exact zl_iret X hR (Nat.le_refl _) dL_body_15 (Nat.le_of_ble_eq_true rfl) (Nat.le_of_ble_eq_true rfl)
  · refine zl_X X hR hl.1 (As := []) (rest := [.int (0 : Int32), .ref x1]) (C := RX9) (T := TX9) (N := 6) (k := k3) (mt_X9_body hT x0 h n hv3) rfl ho3 mf_X9_body q_970 q_971 q_972 ⟨Nat.le_of_ble_eq_true rfl, Nat.le_of_ble_eq_true rfl⟩ ⟨Nat.le_of_ble_eq_true rfl, Nat.le_of_ble_eq_true rfl⟩ rfl (Nat.le_of_ble_eq_true rfl) dL_body_3 (fun H locs nn ce qq hnn hR hce hcv hcl => ?_)
    by_cases ck : k3 = 1
    · subst ck
      replace hf := zz_pos rfl hf
      refine zl_catch X hN hE (k := 1) [] [] (0, 8, 11, 15) rfl (by decide) (fun z hz => nomatch hz) rfl (by decide) q_339 q_422 hce hcv hcl ?_
      refine lv_astore_n (i := 2) (lv' := [(2, .ref qq)]) hx hb dL_body_11 rfl (lv_sub hl [] rfl) (by decide) rfl (fun ls hl => ?_)
      refine lv_iconst (v := (1 : Int32)) hx hb dL_body_12 (by decide) ?_
      cases hf
      exact zl_iret X hR hnn dL_body_13 (Nat.le_of_ble_eq_true rfl) (Nat.le_of_ble_eq_true rfl)
    replace hf := zz_neg ck hf
    cases hf
def rm_L_mass : Room := { frames := 9, cells := 4, slots := 24, locals := 158 }
theorem mf_L_mass : Cond.codeWith yL_mass cL_mass 6 (some .int) [(0, 12, 15, 20), (0, 12, 19, 13)] ∈ zz_G ∧ Cond.initialized yL_mass.cls ∈ zz_G ∧ (yL_mass.cls ≠ "java/lang/invoke/MethodHandle" ∧ yL_mass.cls ≠ "java/lang/invoke/VarHandle" ∧ (parseMethodDescriptor yL_mass.desc).map (fun d => d.parameters.length) = some 5) := ⟨q_976, q_0, by decide +kernel, by decide +kernel, by decide +kernel⟩
set_option maxHeartbeats 4000000 in
set_option maxRecDepth 100000 in
theorem mt_L_mass {D : va_G} {dA : Nat → ClassId} {base t0 : Nat} {l : Launch} (hT : l.stackTraces = false) (x0 : Nat) (x1 : Int32) (x2 : Int32) (x3 : Int32) (x4 : Nat) (h : zz_H) (n : Nat) {r0 : Int32} {hF : zz_H} {nF : Nat} (hf : f_L_mass t0 x0 x1 x2 x3 x4 h n = some (r0, hF, nF)) : zz_ML D dA base t0 l yL_mass cL_mass 6 [(0, 12, 15, 20), (0, 12, 19, 13)] rm_L_mass [.ref x0, .int x1, .int x2, .int x3, .ref x4] h n r0 hF nF := by
  refine zz_ofH (cc := cL_mass) (maxL := 6) (ret := some .int) (by decide +kernel) rfl ?_
  intro p e s m args below meth c s₁ B hml hE hv
  obtain ⟨rfl, hP, hK, hN⟩ := hv
  have X : zz_X D dA base t0 "SpringseatLaw" cL_mass 6 (some .int) l p s m meth c := ⟨B.exec, B.bytes, hml, B.returns, findClass_of_methodNamed B.named, B.notSynchronized, hT, by rw [hP.1]; exact hP.2.1, hK⟩
  have hx := X.1
  have hb := X.2.1
  have hown := X.2.2.2.2.1
  have hR : zz_R D dA base h n s s.heap [] := ⟨hP, va_S.rf⟩
  have hl := lv_entry ([.ref x0, .int x1, .int x2, .int x3, .ref x4]) (n := 6) (by exact Nat.le_of_ble_eq_true rfl)
  rw [lg_entry_eq]
  generalize (lg_sl ([.ref x0, .int x1, .int x2, .int x3, .ref x4]) ++ List.replicate (6 - (lg_sl ([.ref x0, .int x1, .int x2, .int x3, .ref x4])).length) Slot.unset).toArray = ls at hl ⊢
  have hl : lv_has ls 6 [(0, .ref x0), (1, .int x1), (2, .int x2), (3, .int x3), (4, .ref x4)] := hl
  unfold f_L_mass at hf
  refine lv_aload hx hb dL_mass_0 (lv_at hl 4 rfl) ?_
  refine lv_iconst (v := (0 : Int32)) hx hb dL_mass_2 (by decide) ?_
  refine lv_aload_n hx hb dL_mass_3 rfl (lv_at hl 0 rfl) ?_
  refine lv_iload_n hx hb dL_mass_4 rfl (lv_at hl 1 rfl) ?_
  refine lv_iload_n hx hb dL_mass_5 rfl (lv_at hl 2 rfl) ?_
  refine lv_iload_n hx hb dL_mass_6 rfl (lv_at hl 3 rfl) ?_
  obtain ⟨fs7, ho7, hf⟩ := zz_obS_i hf
  rcases zz_th1_i hf with ⟨v7, h7, hv7, hf⟩ | ⟨k7, h7, hv7, hf⟩
  · refine zl_V X hR hl.1 (As := [.int x1, .int x2, .int x3]) (rest := [.int (0 : Int32), .ref x4]) (C := RX9) (T := TX9) (N := 6) (ro := (fun v : Int32 => some (Value.int v)) v7) (mt_X9_mass hT x0 x1 x2 x3 h n hv7) rfl ho7 mf_X9_mass q_977 q_978 q_979 ⟨Nat.le_of_ble_eq_true rfl, Nat.le_of_ble_eq_true rfl⟩ ⟨Nat.le_of_ble_eq_true rfl, Nat.le_of_ble_eq_true rfl⟩ rfl (Nat.le_of_ble_eq_true rfl) dL_mass_7 (fun H locs hR => ?_)
    refine W.eq (g2 := F0 m 10 ls [.int v7, .int (0 : Int32), .ref x4]) rfl ?_
    refine W.widen (k := 4) (n := 24) (Nat.le_of_ble_eq_true rfl) (Nat.le_of_ble_eq_true rfl) ?_
    refine lv_i2l hx hb dL_mass_10 rfl ?_
    refine zr_last X hR (r := (some x4)) dL_mass_11 hf (fun h11 H locs hf hR => ?_)
    refine lv_goto (tgt := 23) hx hb dL_mass_12 (by decide) ?_
    refine lv_iconst (v := (0 : Int32)) hx hb dL_mass_23 (by decide) ?_
    cases hf
    exact zl_iret X hR (Nat.le_refl _) dL_mass_24 (Nat.le_of_ble_eq_true rfl) (Nat.le_of_ble_eq_true rfl)
  · refine zl_X X hR hl.1 (As := [.int x1, .int x2, .int x3]) (rest := [.int (0 : Int32), .ref x4]) (C := RX9) (T := TX9) (N := 6) (k := k7) (mt_X9_mass hT x0 x1 x2 x3 h n hv7) rfl ho7 mf_X9_mass q_977 q_978 q_979 ⟨Nat.le_of_ble_eq_true rfl, Nat.le_of_ble_eq_true rfl⟩ ⟨Nat.le_of_ble_eq_true rfl, Nat.le_of_ble_eq_true rfl⟩ rfl (Nat.le_of_ble_eq_true rfl) dL_mass_7 (fun H locs nn ce qq hnn hR hce hcv hcl => ?_)
    by_cases ck : k7 = 2
    · subst ck
      replace hf := zz_pos rfl hf
      refine zl_catch X hN hE (k := 2) [] [(0, 12, 19, 13)] (0, 12, 15, 20) rfl (by decide) (fun z hz => nomatch hz) rfl (by decide) q_576 q_591 hce hcv hcl ?_
      refine lv_astore (i := 5) (lv' := [(5, .ref qq)]) hx hb dL_mass_15 (lv_sub hl [] rfl) (by decide) rfl (fun ls hl => ?_)
      refine lv_iconst (v := (1 : Int32)) hx hb dL_mass_17 (by decide) ?_
      cases hf
      exact zl_iret X hR hnn dL_mass_18 (Nat.le_of_ble_eq_true rfl) (Nat.le_of_ble_eq_true rfl)
    replace hf := zz_neg ck hf
    by_cases ck : k7 = 0
    · subst ck
      replace hf := zz_pos rfl hf
      refine zl_catch X hN hE (k := 0) [(0, 12, 15, 20)] [] (0, 12, 19, 13) rfl (by decide) (by intro z hz; simp only [List.mem_cons, List.not_mem_nil, or_false] at hz; rcases hz with rfl <;> first | exact ⟨by decide, 2, by decide, by decide, q_576⟩) rfl (by decide) q_338 q_349 hce hcv hcl ?_
      refine lv_astore (i := 5) (lv' := [(5, .ref qq)]) hx hb dL_mass_19 (lv_sub hl [] rfl) (by decide) rfl (fun ls hl => ?_)
      refine lv_iconst (v := (2 : Int32)) hx hb dL_mass_21 (by decide) ?_
      cases hf
      exact zl_iret X hR hnn dL_mass_22 (Nat.le_of_ble_eq_true rfl) (Nat.le_of_ble_eq_true rfl)
    replace hf := zz_neg ck hf
    cases hf
def rm_L_sinks : Room := { frames := 10, cells := 5, slots := 30, locals := 179 }
theorem mf_L_sinks : Cond.codeWith yL_sinks cL_sinks 6 (some .int) [(0, 12, 15, 20), (0, 12, 19, 22)] ∈ zz_G ∧ Cond.initialized yL_sinks.cls ∈ zz_G ∧ (yL_sinks.cls ≠ "java/lang/invoke/MethodHandle" ∧ yL_sinks.cls ≠ "java/lang/invoke/VarHandle" ∧ (parseMethodDescriptor yL_sinks.desc).map (fun d => d.parameters.length) = some 5) := ⟨q_987, q_0, by decide +kernel, by decide +kernel, by decide +kernel⟩
set_option maxHeartbeats 4000000 in
set_option maxRecDepth 100000 in
theorem mt_L_sinks {D : va_G} {dA : Nat → ClassId} {base t0 : Nat} {l : Launch} (hT : l.stackTraces = false) (x0 : Nat) (x1 : Int32) (x2 : Int32) (x3 : Int32) (x4 : Nat) (h : zz_H) (n : Nat) {r0 : Int32} {hF : zz_H} {nF : Nat} (hf : f_L_sinks t0 x0 x1 x2 x3 x4 h n = some (r0, hF, nF)) : zz_ML D dA base t0 l yL_sinks cL_sinks 6 [(0, 12, 15, 20), (0, 12, 19, 22)] rm_L_sinks [.ref x0, .int x1, .int x2, .int x3, .ref x4] h n r0 hF nF := by
  refine zz_ofH (cc := cL_sinks) (maxL := 6) (ret := some .int) (by decide +kernel) rfl ?_
  intro p e s m args below meth c s₁ B hml hE hv
  obtain ⟨rfl, hP, hK, hN⟩ := hv
  have X : zz_X D dA base t0 "SpringseatLaw" cL_sinks 6 (some .int) l p s m meth c := ⟨B.exec, B.bytes, hml, B.returns, findClass_of_methodNamed B.named, B.notSynchronized, hT, by rw [hP.1]; exact hP.2.1, hK⟩
  have hx := X.1
  have hb := X.2.1
  have hown := X.2.2.2.2.1
  have hR : zz_R D dA base h n s s.heap [] := ⟨hP, va_S.rf⟩
  have hl := lv_entry ([.ref x0, .int x1, .int x2, .int x3, .ref x4]) (n := 6) (by exact Nat.le_of_ble_eq_true rfl)
  rw [lg_entry_eq]
  generalize (lg_sl ([.ref x0, .int x1, .int x2, .int x3, .ref x4]) ++ List.replicate (6 - (lg_sl ([.ref x0, .int x1, .int x2, .int x3, .ref x4])).length) Slot.unset).toArray = ls at hl ⊢
  have hl : lv_has ls 6 [(0, .ref x0), (1, .int x1), (2, .int x2), (3, .int x3), (4, .ref x4)] := hl
  unfold f_L_sinks at hf
  refine lv_aload hx hb dL_sinks_0 (lv_at hl 4 rfl) ?_
  refine lv_iconst (v := (0 : Int32)) hx hb dL_sinks_2 (by decide) ?_
  refine lv_aload_n hx hb dL_sinks_3 rfl (lv_at hl 0 rfl) ?_
  refine lv_iload_n hx hb dL_sinks_4 rfl (lv_at hl 1 rfl) ?_
  refine lv_iload_n hx hb dL_sinks_5 rfl (lv_at hl 2 rfl) ?_
  refine lv_iload_n hx hb dL_sinks_6 rfl (lv_at hl 3 rfl) ?_
  obtain ⟨fs7, ho7, hf⟩ := zz_obS_i hf
  rcases zz_th1_i hf with ⟨v7, h7, hv7, hf⟩ | ⟨k7, h7, hv7, hf⟩
  · refine zl_V X hR hl.1 (As := [.int x1, .int x2, .int x3]) (rest := [.int (0 : Int32), .ref x4]) (C := RX9) (T := TX9) (N := 6) (ro := (fun v : Int32 => some (Value.int v)) v7) (mt_X9_sinks hT x0 x1 x2 x3 h n hv7) rfl ho7 mf_X9_sinks q_988 q_989 q_990 ⟨Nat.le_of_ble_eq_true rfl, Nat.le_of_ble_eq_true rfl⟩ ⟨Nat.le_of_ble_eq_true rfl, Nat.le_of_ble_eq_true rfl⟩ rfl (Nat.le_of_ble_eq_true rfl) dL_sinks_7 (fun H locs hR => ?_)
    refine W.eq (g2 := F0 m 10 ls [.int v7, .int (0 : Int32), .ref x4]) rfl ?_
    refine W.widen (k := 5) (n := 30) (Nat.le_of_ble_eq_true rfl) (Nat.le_of_ble_eq_true rfl) ?_
    refine lv_i2l hx hb dL_sinks_10 rfl ?_
    refine zr_last X hR (r := (some x4)) dL_sinks_11 hf (fun h11 H locs hf hR => ?_)
    refine lv_goto (tgt := 23) hx hb dL_sinks_12 (by decide) ?_
    refine lv_iconst (v := (0 : Int32)) hx hb dL_sinks_23 (by decide) ?_
    cases hf
    exact zl_iret X hR (Nat.le_refl _) dL_sinks_24 (Nat.le_of_ble_eq_true rfl) (Nat.le_of_ble_eq_true rfl)
  · refine zl_X X hR hl.1 (As := [.int x1, .int x2, .int x3]) (rest := [.int (0 : Int32), .ref x4]) (C := RX9) (T := TX9) (N := 6) (k := k7) (mt_X9_sinks hT x0 x1 x2 x3 h n hv7) rfl ho7 mf_X9_sinks q_988 q_989 q_990 ⟨Nat.le_of_ble_eq_true rfl, Nat.le_of_ble_eq_true rfl⟩ ⟨Nat.le_of_ble_eq_true rfl, Nat.le_of_ble_eq_true rfl⟩ rfl (Nat.le_of_ble_eq_true rfl) dL_sinks_7 (fun H locs nn ce qq hnn hR hce hcv hcl => ?_)
    by_cases ck : k7 = 2
    · subst ck
      replace hf := zz_pos rfl hf
      refine zl_catch X hN hE (k := 2) [] [(0, 12, 19, 22)] (0, 12, 15, 20) rfl (by decide) (fun z hz => nomatch hz) rfl (by decide) q_576 q_591 hce hcv hcl ?_
      refine lv_astore (i := 5) (lv' := [(5, .ref qq)]) hx hb dL_sinks_15 (lv_sub hl [] rfl) (by decide) rfl (fun ls hl => ?_)
      refine lv_iconst (v := (1 : Int32)) hx hb dL_sinks_17 (by decide) ?_
      cases hf
      exact zl_iret X hR hnn dL_sinks_18 (Nat.le_of_ble_eq_true rfl) (Nat.le_of_ble_eq_true rfl)
    replace hf := zz_neg ck hf
    by_cases ck : k7 = 3
    · subst ck
      replace hf := zz_pos rfl hf
      refine zl_catch X hN hE (k := 3) [(0, 12, 15, 20)] [] (0, 12, 19, 22) rfl (by decide) (by intro z hz; simp only [List.mem_cons, List.not_mem_nil, or_false] at hz; rcases hz with rfl <;> first | exact ⟨by decide, 2, by decide, by decide, q_576⟩) rfl (by decide) q_577 q_618 hce hcv hcl ?_
      refine lv_astore (i := 5) (lv' := [(5, .ref qq)]) hx hb dL_sinks_19 (lv_sub hl [] rfl) (by decide) rfl (fun ls hl => ?_)
      refine lv_iconst (v := (2 : Int32)) hx hb dL_sinks_21 (by decide) ?_
      cases hf
      exact zl_iret X hR hnn dL_sinks_22 (Nat.le_of_ble_eq_true rfl) (Nat.le_of_ble_eq_true rfl)
    replace hf := zz_neg ck hf
    cases hf
def rm_L_pressure : Room := { frames := 10, cells := 5, slots := 30, locals := 179 }
theorem mf_L_pressure : Cond.codeWith yL_pressure cL_pressure 6 (some .int) [(0, 12, 15, 20), (0, 12, 19, 22)] ∈ zz_G ∧ Cond.initialized yL_pressure.cls ∈ zz_G ∧ (yL_pressure.cls ≠ "java/lang/invoke/MethodHandle" ∧ yL_pressure.cls ≠ "java/lang/invoke/VarHandle" ∧ (parseMethodDescriptor yL_pressure.desc).map (fun d => d.parameters.length) = some 5) := ⟨q_1002, q_0, by decide +kernel, by decide +kernel, by decide +kernel⟩
set_option maxHeartbeats 4000000 in
set_option maxRecDepth 100000 in
theorem mt_L_pressure {D : va_G} {dA : Nat → ClassId} {base t0 : Nat} {l : Launch} (hT : l.stackTraces = false) (x0 : Nat) (x1 : Int32) (x2 : Int32) (x3 : Int32) (x4 : Nat) (h : zz_H) (n : Nat) {r0 : Int32} {hF : zz_H} {nF : Nat} (hf : f_L_pressure t0 x0 x1 x2 x3 x4 h n = some (r0, hF, nF)) : zz_ML D dA base t0 l yL_pressure cL_pressure 6 [(0, 12, 15, 20), (0, 12, 19, 22)] rm_L_pressure [.ref x0, .int x1, .int x2, .int x3, .ref x4] h n r0 hF nF := by
  refine zz_ofH (cc := cL_pressure) (maxL := 6) (ret := some .int) (by decide +kernel) rfl ?_
  intro p e s m args below meth c s₁ B hml hE hv
  obtain ⟨rfl, hP, hK, hN⟩ := hv
  have X : zz_X D dA base t0 "SpringseatLaw" cL_pressure 6 (some .int) l p s m meth c := ⟨B.exec, B.bytes, hml, B.returns, findClass_of_methodNamed B.named, B.notSynchronized, hT, by rw [hP.1]; exact hP.2.1, hK⟩
  have hx := X.1
  have hb := X.2.1
  have hown := X.2.2.2.2.1
  have hR : zz_R D dA base h n s s.heap [] := ⟨hP, va_S.rf⟩
  have hl := lv_entry ([.ref x0, .int x1, .int x2, .int x3, .ref x4]) (n := 6) (by exact Nat.le_of_ble_eq_true rfl)
  rw [lg_entry_eq]
  generalize (lg_sl ([.ref x0, .int x1, .int x2, .int x3, .ref x4]) ++ List.replicate (6 - (lg_sl ([.ref x0, .int x1, .int x2, .int x3, .ref x4])).length) Slot.unset).toArray = ls at hl ⊢
  have hl : lv_has ls 6 [(0, .ref x0), (1, .int x1), (2, .int x2), (3, .int x3), (4, .ref x4)] := hl
  unfold f_L_pressure at hf
  refine lv_aload hx hb dL_pressure_0 (lv_at hl 4 rfl) ?_
  refine lv_iconst (v := (0 : Int32)) hx hb dL_pressure_2 (by decide) ?_
  refine lv_aload_n hx hb dL_pressure_3 rfl (lv_at hl 0 rfl) ?_
  refine lv_iload_n hx hb dL_pressure_4 rfl (lv_at hl 1 rfl) ?_
  refine lv_iload_n hx hb dL_pressure_5 rfl (lv_at hl 2 rfl) ?_
  refine lv_iload_n hx hb dL_pressure_6 rfl (lv_at hl 3 rfl) ?_
  obtain ⟨fs7, ho7, hf⟩ := zz_obS_i hf
  rcases zz_th1_i hf with ⟨v7, h7, hv7, hf⟩ | ⟨k7, h7, hv7, hf⟩
  · refine zl_V X hR hl.1 (As := [.int x1, .int x2, .int x3]) (rest := [.int (0 : Int32), .ref x4]) (C := RX9) (T := TX9) (N := 6) (ro := (fun v : Int32 => some (Value.int v)) v7) (mt_X9_pressure hT x0 x1 x2 x3 h n hv7) rfl ho7 mf_X9_pressure q_1003 q_1004 q_1005 ⟨Nat.le_of_ble_eq_true rfl, Nat.le_of_ble_eq_true rfl⟩ ⟨Nat.le_of_ble_eq_true rfl, Nat.le_of_ble_eq_true rfl⟩ rfl (Nat.le_of_ble_eq_true rfl) dL_pressure_7 (fun H locs hR => ?_)
    refine W.eq (g2 := F0 m 10 ls [.int v7, .int (0 : Int32), .ref x4]) rfl ?_
    refine W.widen (k := 5) (n := 30) (Nat.le_of_ble_eq_true rfl) (Nat.le_of_ble_eq_true rfl) ?_
    refine lv_i2l hx hb dL_pressure_10 rfl ?_
    refine zr_last X hR (r := (some x4)) dL_pressure_11 hf (fun h11 H locs hf hR => ?_)
    refine lv_goto (tgt := 23) hx hb dL_pressure_12 (by decide) ?_
    refine lv_iconst (v := (0 : Int32)) hx hb dL_pressure_23 (by decide) ?_
    cases hf
    exact zl_iret X hR (Nat.le_refl _) dL_pressure_24 (Nat.le_of_ble_eq_true rfl) (Nat.le_of_ble_eq_true rfl)
  · refine zl_X X hR hl.1 (As := [.int x1, .int x2, .int x3]) (rest := [.int (0 : Int32), .ref x4]) (C := RX9) (T := TX9) (N := 6) (k := k7) (mt_X9_pressure hT x0 x1 x2 x3 h n hv7) rfl ho7 mf_X9_pressure q_1003 q_1004 q_1005 ⟨Nat.le_of_ble_eq_true rfl, Nat.le_of_ble_eq_true rfl⟩ ⟨Nat.le_of_ble_eq_true rfl, Nat.le_of_ble_eq_true rfl⟩ rfl (Nat.le_of_ble_eq_true rfl) dL_pressure_7 (fun H locs nn ce qq hnn hR hce hcv hcl => ?_)
    by_cases ck : k7 = 2
    · subst ck
      replace hf := zz_pos rfl hf
      refine zl_catch X hN hE (k := 2) [] [(0, 12, 19, 22)] (0, 12, 15, 20) rfl (by decide) (fun z hz => nomatch hz) rfl (by decide) q_576 q_591 hce hcv hcl ?_
      refine lv_astore (i := 5) (lv' := [(5, .ref qq)]) hx hb dL_pressure_15 (lv_sub hl [] rfl) (by decide) rfl (fun ls hl => ?_)
      refine lv_iconst (v := (1 : Int32)) hx hb dL_pressure_17 (by decide) ?_
      cases hf
      exact zl_iret X hR hnn dL_pressure_18 (Nat.le_of_ble_eq_true rfl) (Nat.le_of_ble_eq_true rfl)
    replace hf := zz_neg ck hf
    by_cases ck : k7 = 3
    · subst ck
      replace hf := zz_pos rfl hf
      refine zl_catch X hN hE (k := 3) [(0, 12, 15, 20)] [] (0, 12, 19, 22) rfl (by decide) (by intro z hz; simp only [List.mem_cons, List.not_mem_nil, or_false] at hz; rcases hz with rfl <;> first | exact ⟨by decide, 2, by decide, by decide, q_576⟩) rfl (by decide) q_577 q_618 hce hcv hcl ?_
      refine lv_astore (i := 5) (lv' := [(5, .ref qq)]) hx hb dL_pressure_19 (lv_sub hl [] rfl) (by decide) rfl (fun ls hl => ?_)
      refine lv_iconst (v := (2 : Int32)) hx hb dL_pressure_21 (by decide) ?_
      cases hf
      exact zl_iret X hR hnn dL_pressure_22 (Nat.le_of_ble_eq_true rfl) (Nat.le_of_ble_eq_true rfl)
    replace hf := zz_neg ck hf
    cases hf
def rm_L_comfort : Room := { frames := 9, cells := 3, slots := 18, locals := 160 }
theorem mf_L_comfort : Cond.codeWith yL_comfort cL_comfort 5 (some .int) [(0, 10, 13, 20), (0, 10, 17, 22)] ∈ zz_G ∧ Cond.initialized yL_comfort.cls ∈ zz_G ∧ (yL_comfort.cls ≠ "java/lang/invoke/MethodHandle" ∧ yL_comfort.cls ≠ "java/lang/invoke/VarHandle" ∧ (parseMethodDescriptor yL_comfort.desc).map (fun d => d.parameters.length) = some 4) := ⟨q_1013, q_0, by decide +kernel, by decide +kernel, by decide +kernel⟩
set_option maxHeartbeats 4000000 in
set_option maxRecDepth 100000 in
theorem mt_L_comfort {D : va_G} {dA : Nat → ClassId} {base t0 : Nat} {l : Launch} (hT : l.stackTraces = false) (x0 : Nat) (x1 : Int32) (x2 : Int32) (x3 : Nat) (h : zz_H) (n : Nat) {r0 : Int32} {hF : zz_H} {nF : Nat} (hf : f_L_comfort t0 x0 x1 x2 x3 h n = some (r0, hF, nF)) : zz_ML D dA base t0 l yL_comfort cL_comfort 5 [(0, 10, 13, 20), (0, 10, 17, 22)] rm_L_comfort [.ref x0, .int x1, .int x2, .ref x3] h n r0 hF nF := by
  refine zz_ofH (cc := cL_comfort) (maxL := 5) (ret := some .int) (by decide +kernel) rfl ?_
  intro p e s m args below meth c s₁ B hml hE hv
  obtain ⟨rfl, hP, hK, hN⟩ := hv
  have X : zz_X D dA base t0 "SpringseatLaw" cL_comfort 5 (some .int) l p s m meth c := ⟨B.exec, B.bytes, hml, B.returns, findClass_of_methodNamed B.named, B.notSynchronized, hT, by rw [hP.1]; exact hP.2.1, hK⟩
  have hx := X.1
  have hb := X.2.1
  have hown := X.2.2.2.2.1
  have hR : zz_R D dA base h n s s.heap [] := ⟨hP, va_S.rf⟩
  have hl := lv_entry ([.ref x0, .int x1, .int x2, .ref x3]) (n := 5) (by exact Nat.le_of_ble_eq_true rfl)
  rw [lg_entry_eq]
  generalize (lg_sl ([.ref x0, .int x1, .int x2, .ref x3]) ++ List.replicate (5 - (lg_sl ([.ref x0, .int x1, .int x2, .ref x3])).length) Slot.unset).toArray = ls at hl ⊢
  have hl : lv_has ls 5 [(0, .ref x0), (1, .int x1), (2, .int x2), (3, .ref x3)] := hl
  unfold f_L_comfort at hf
  refine lv_aload_n hx hb dL_comfort_0 rfl (lv_at hl 3 rfl) ?_
  refine lv_iconst (v := (0 : Int32)) hx hb dL_comfort_1 (by decide) ?_
  refine lv_aload_n hx hb dL_comfort_2 rfl (lv_at hl 0 rfl) ?_
  refine lv_iload_n hx hb dL_comfort_3 rfl (lv_at hl 1 rfl) ?_
  refine lv_iload_n hx hb dL_comfort_4 rfl (lv_at hl 2 rfl) ?_
  obtain ⟨fs5, ho5, hf⟩ := zz_obS_i hf
  rcases zz_th1_i hf with ⟨v5, h5, hv5, hf⟩ | ⟨k5, h5, hv5, hf⟩
  · refine zl_V X hR hl.1 (As := [.int x1, .int x2]) (rest := [.int (0 : Int32), .ref x3]) (C := RX9) (T := TX9) (N := 6) (ro := (fun v : Int32 => some (Value.int v)) v5) (mt_X9_comfort hT x0 x1 x2 h n hv5) rfl ho5 mf_X9_comfort q_1014 q_1015 q_1016 ⟨Nat.le_of_ble_eq_true rfl, Nat.le_of_ble_eq_true rfl⟩ ⟨Nat.le_of_ble_eq_true rfl, Nat.le_of_ble_eq_true rfl⟩ rfl (Nat.le_of_ble_eq_true rfl) dL_comfort_5 (fun H locs hR => ?_)
    refine W.eq (g2 := F0 m 8 ls [.int v5, .int (0 : Int32), .ref x3]) rfl ?_
    refine W.widen (k := 3) (n := 18) (Nat.le_of_ble_eq_true rfl) (Nat.le_of_ble_eq_true rfl) ?_
    refine lv_i2l hx hb dL_comfort_8 rfl ?_
    refine zr_last X hR (r := (some x3)) dL_comfort_9 hf (fun h9 H locs hf hR => ?_)
    refine lv_goto (tgt := 21) hx hb dL_comfort_10 (by decide) ?_
    refine lv_iconst (v := (0 : Int32)) hx hb dL_comfort_21 (by decide) ?_
    cases hf
    exact zl_iret X hR (Nat.le_refl _) dL_comfort_22 (Nat.le_of_ble_eq_true rfl) (Nat.le_of_ble_eq_true rfl)
  · refine zl_X X hR hl.1 (As := [.int x1, .int x2]) (rest := [.int (0 : Int32), .ref x3]) (C := RX9) (T := TX9) (N := 6) (k := k5) (mt_X9_comfort hT x0 x1 x2 h n hv5) rfl ho5 mf_X9_comfort q_1014 q_1015 q_1016 ⟨Nat.le_of_ble_eq_true rfl, Nat.le_of_ble_eq_true rfl⟩ ⟨Nat.le_of_ble_eq_true rfl, Nat.le_of_ble_eq_true rfl⟩ rfl (Nat.le_of_ble_eq_true rfl) dL_comfort_5 (fun H locs nn ce qq hnn hR hce hcv hcl => ?_)
    by_cases ck : k5 = 2
    · subst ck
      replace hf := zz_pos rfl hf
      refine zl_catch X hN hE (k := 2) [] [(0, 10, 17, 22)] (0, 10, 13, 20) rfl (by decide) (fun z hz => nomatch hz) rfl (by decide) q_576 q_591 hce hcv hcl ?_
      refine lv_astore (i := 4) (lv' := [(4, .ref qq)]) hx hb dL_comfort_13 (lv_sub hl [] rfl) (by decide) rfl (fun ls hl => ?_)
      refine lv_iconst (v := (1 : Int32)) hx hb dL_comfort_15 (by decide) ?_
      cases hf
      exact zl_iret X hR hnn dL_comfort_16 (Nat.le_of_ble_eq_true rfl) (Nat.le_of_ble_eq_true rfl)
    replace hf := zz_neg ck hf
    by_cases ck : k5 = 3
    · subst ck
      replace hf := zz_pos rfl hf
      refine zl_catch X hN hE (k := 3) [(0, 10, 13, 20)] [] (0, 10, 17, 22) rfl (by decide) (by intro z hz; simp only [List.mem_cons, List.not_mem_nil, or_false] at hz; rcases hz with rfl <;> first | exact ⟨by decide, 2, by decide, by decide, q_576⟩) rfl (by decide) q_577 q_618 hce hcv hcl ?_
      refine lv_astore (i := 4) (lv' := [(4, .ref qq)]) hx hb dL_comfort_17 (lv_sub hl [] rfl) (by decide) rfl (fun ls hl => ?_)
      refine lv_iconst (v := (2 : Int32)) hx hb dL_comfort_19 (by decide) ?_
      cases hf
      exact zl_iret X hR hnn dL_comfort_20 (Nat.le_of_ble_eq_true rfl) (Nat.le_of_ble_eq_true rfl)
    replace hf := zz_neg ck hf
    cases hf
def rm_L_fit : Room := { frames := 9, cells := 4, slots := 24, locals := 161 }
theorem mf_L_fit : Cond.codeWith yL_fit cL_fit 6 (some .int) [(0, 12, 15, 20), (0, 12, 19, 22)] ∈ zz_G ∧ Cond.initialized yL_fit.cls ∈ zz_G ∧ (yL_fit.cls ≠ "java/lang/invoke/MethodHandle" ∧ yL_fit.cls ≠ "java/lang/invoke/VarHandle" ∧ (parseMethodDescriptor yL_fit.desc).map (fun d => d.parameters.length) = some 5) := ⟨q_1020, q_0, by decide +kernel, by decide +kernel, by decide +kernel⟩
set_option maxHeartbeats 4000000 in
set_option maxRecDepth 100000 in
theorem mt_L_fit {D : va_G} {dA : Nat → ClassId} {base t0 : Nat} {l : Launch} (hT : l.stackTraces = false) (x0 : Nat) (x1 : Int32) (x2 : Int32) (x3 : Int32) (x4 : Nat) (h : zz_H) (n : Nat) {r0 : Int32} {hF : zz_H} {nF : Nat} (hf : f_L_fit t0 x0 x1 x2 x3 x4 h n = some (r0, hF, nF)) : zz_ML D dA base t0 l yL_fit cL_fit 6 [(0, 12, 15, 20), (0, 12, 19, 22)] rm_L_fit [.ref x0, .int x1, .int x2, .int x3, .ref x4] h n r0 hF nF := by
  refine zz_ofH (cc := cL_fit) (maxL := 6) (ret := some .int) (by decide +kernel) rfl ?_
  intro p e s m args below meth c s₁ B hml hE hv
  obtain ⟨rfl, hP, hK, hN⟩ := hv
  have X : zz_X D dA base t0 "SpringseatLaw" cL_fit 6 (some .int) l p s m meth c := ⟨B.exec, B.bytes, hml, B.returns, findClass_of_methodNamed B.named, B.notSynchronized, hT, by rw [hP.1]; exact hP.2.1, hK⟩
  have hx := X.1
  have hb := X.2.1
  have hown := X.2.2.2.2.1
  have hR : zz_R D dA base h n s s.heap [] := ⟨hP, va_S.rf⟩
  have hl := lv_entry ([.ref x0, .int x1, .int x2, .int x3, .ref x4]) (n := 6) (by exact Nat.le_of_ble_eq_true rfl)
  rw [lg_entry_eq]
  generalize (lg_sl ([.ref x0, .int x1, .int x2, .int x3, .ref x4]) ++ List.replicate (6 - (lg_sl ([.ref x0, .int x1, .int x2, .int x3, .ref x4])).length) Slot.unset).toArray = ls at hl ⊢
  have hl : lv_has ls 6 [(0, .ref x0), (1, .int x1), (2, .int x2), (3, .int x3), (4, .ref x4)] := hl
  unfold f_L_fit at hf
  refine lv_aload hx hb dL_fit_0 (lv_at hl 4 rfl) ?_
  refine lv_iconst (v := (0 : Int32)) hx hb dL_fit_2 (by decide) ?_
  refine lv_aload_n hx hb dL_fit_3 rfl (lv_at hl 0 rfl) ?_
  refine lv_iload_n hx hb dL_fit_4 rfl (lv_at hl 1 rfl) ?_
  refine lv_iload_n hx hb dL_fit_5 rfl (lv_at hl 2 rfl) ?_
  refine lv_iload_n hx hb dL_fit_6 rfl (lv_at hl 3 rfl) ?_
  obtain ⟨fs7, ho7, hf⟩ := zz_obS_i hf
  rcases zz_th1_i hf with ⟨v7, h7, hv7, hf⟩ | ⟨k7, h7, hv7, hf⟩
  · refine zl_V X hR hl.1 (As := [.int x1, .int x2, .int x3]) (rest := [.int (0 : Int32), .ref x4]) (C := RX9) (T := TX9) (N := 6) (ro := (fun v : Int32 => some (Value.int v)) v7) (mt_X9_fit hT x0 x1 x2 x3 h n hv7) rfl ho7 mf_X9_fit q_1021 q_1022 q_1023 ⟨Nat.le_of_ble_eq_true rfl, Nat.le_of_ble_eq_true rfl⟩ ⟨Nat.le_of_ble_eq_true rfl, Nat.le_of_ble_eq_true rfl⟩ rfl (Nat.le_of_ble_eq_true rfl) dL_fit_7 (fun H locs hR => ?_)
    refine W.eq (g2 := F0 m 10 ls [.int v7, .int (0 : Int32), .ref x4]) rfl ?_
    refine W.widen (k := 4) (n := 24) (Nat.le_of_ble_eq_true rfl) (Nat.le_of_ble_eq_true rfl) ?_
    refine lv_i2l hx hb dL_fit_10 rfl ?_
    refine zr_last X hR (r := (some x4)) dL_fit_11 hf (fun h11 H locs hf hR => ?_)
    refine lv_goto (tgt := 23) hx hb dL_fit_12 (by decide) ?_
    refine lv_iconst (v := (0 : Int32)) hx hb dL_fit_23 (by decide) ?_
    cases hf
    exact zl_iret X hR (Nat.le_refl _) dL_fit_24 (Nat.le_of_ble_eq_true rfl) (Nat.le_of_ble_eq_true rfl)
  · refine zl_X X hR hl.1 (As := [.int x1, .int x2, .int x3]) (rest := [.int (0 : Int32), .ref x4]) (C := RX9) (T := TX9) (N := 6) (k := k7) (mt_X9_fit hT x0 x1 x2 x3 h n hv7) rfl ho7 mf_X9_fit q_1021 q_1022 q_1023 ⟨Nat.le_of_ble_eq_true rfl, Nat.le_of_ble_eq_true rfl⟩ ⟨Nat.le_of_ble_eq_true rfl, Nat.le_of_ble_eq_true rfl⟩ rfl (Nat.le_of_ble_eq_true rfl) dL_fit_7 (fun H locs nn ce qq hnn hR hce hcv hcl => ?_)
    by_cases ck : k7 = 2
    · subst ck
      replace hf := zz_pos rfl hf
      refine zl_catch X hN hE (k := 2) [] [(0, 12, 19, 22)] (0, 12, 15, 20) rfl (by decide) (fun z hz => nomatch hz) rfl (by decide) q_576 q_591 hce hcv hcl ?_
      refine lv_astore (i := 5) (lv' := [(5, .ref qq)]) hx hb dL_fit_15 (lv_sub hl [] rfl) (by decide) rfl (fun ls hl => ?_)
      refine lv_iconst (v := (1 : Int32)) hx hb dL_fit_17 (by decide) ?_
      cases hf
      exact zl_iret X hR hnn dL_fit_18 (Nat.le_of_ble_eq_true rfl) (Nat.le_of_ble_eq_true rfl)
    replace hf := zz_neg ck hf
    by_cases ck : k7 = 3
    · subst ck
      replace hf := zz_pos rfl hf
      refine zl_catch X hN hE (k := 3) [(0, 12, 15, 20)] [] (0, 12, 19, 22) rfl (by decide) (by intro z hz; simp only [List.mem_cons, List.not_mem_nil, or_false] at hz; rcases hz with rfl <;> first | exact ⟨by decide, 2, by decide, by decide, q_576⟩) rfl (by decide) q_577 q_618 hce hcv hcl ?_
      refine lv_astore (i := 5) (lv' := [(5, .ref qq)]) hx hb dL_fit_19 (lv_sub hl [] rfl) (by decide) rfl (fun ls hl => ?_)
      refine lv_iconst (v := (2 : Int32)) hx hb dL_fit_21 (by decide) ?_
      cases hf
      exact zl_iret X hR hnn dL_fit_22 (Nat.le_of_ble_eq_true rfl) (Nat.le_of_ble_eq_true rfl)
    replace hf := zz_neg ck hf
    cases hf
def rm_L_cloth : Room := { frames := 8, cells := 6, slots := 43, locals := 134 }
theorem mf_L_cloth : Cond.codeWith yL_cloth cL_cloth 5 (some .int) [(0, 10, 13, 13), (0, 10, 17, 15)] ∈ zz_G ∧ Cond.initialized yL_cloth.cls ∈ zz_G ∧ (yL_cloth.cls ≠ "java/lang/invoke/MethodHandle" ∧ yL_cloth.cls ≠ "java/lang/invoke/VarHandle" ∧ (parseMethodDescriptor yL_cloth.desc).map (fun d => d.parameters.length) = some 4) := ⟨q_1027, q_0, by decide +kernel, by decide +kernel, by decide +kernel⟩
set_option maxHeartbeats 4000000 in
set_option maxRecDepth 100000 in
theorem mt_L_cloth {D : va_G} {dA : Nat → ClassId} {base t0 : Nat} {l : Launch} (hT : l.stackTraces = false) (x0 : Nat) (x1 : Int32) (x2 : Int32) (x3 : Nat) (h : zz_H) (n : Nat) {r0 : Int32} {hF : zz_H} {nF : Nat} (hf : f_L_cloth t0 x0 x1 x2 x3 h n = some (r0, hF, nF)) : zz_ML D dA base t0 l yL_cloth cL_cloth 5 [(0, 10, 13, 13), (0, 10, 17, 15)] rm_L_cloth [.ref x0, .int x1, .int x2, .ref x3] h n r0 hF nF := by
  refine zz_ofH (cc := cL_cloth) (maxL := 5) (ret := some .int) (by decide +kernel) rfl ?_
  intro p e s m args below meth c s₁ B hml hE hv
  obtain ⟨rfl, hP, hK, hN⟩ := hv
  have X : zz_X D dA base t0 "SpringseatLaw" cL_cloth 5 (some .int) l p s m meth c := ⟨B.exec, B.bytes, hml, B.returns, findClass_of_methodNamed B.named, B.notSynchronized, hT, by rw [hP.1]; exact hP.2.1, hK⟩
  have hx := X.1
  have hb := X.2.1
  have hown := X.2.2.2.2.1
  have hR : zz_R D dA base h n s s.heap [] := ⟨hP, va_S.rf⟩
  have hl := lv_entry ([.ref x0, .int x1, .int x2, .ref x3]) (n := 5) (by exact Nat.le_of_ble_eq_true rfl)
  rw [lg_entry_eq]
  generalize (lg_sl ([.ref x0, .int x1, .int x2, .ref x3]) ++ List.replicate (5 - (lg_sl ([.ref x0, .int x1, .int x2, .ref x3])).length) Slot.unset).toArray = ls at hl ⊢
  have hl : lv_has ls 5 [(0, .ref x0), (1, .int x1), (2, .int x2), (3, .ref x3)] := hl
  unfold f_L_cloth at hf
  refine lv_aload_n hx hb dL_cloth_0 rfl (lv_at hl 3 rfl) ?_
  refine lv_iconst (v := (0 : Int32)) hx hb dL_cloth_1 (by decide) ?_
  refine lv_aload_n hx hb dL_cloth_2 rfl (lv_at hl 0 rfl) ?_
  refine lv_iload_n hx hb dL_cloth_3 rfl (lv_at hl 1 rfl) ?_
  refine lv_iload_n hx hb dL_cloth_4 rfl (lv_at hl 2 rfl) ?_
  obtain ⟨fs5, ho5, hf⟩ := zz_obS_i hf
  rcases zz_th2_i hf with ⟨v5, h5, n5, hv5, hf⟩ | ⟨k5, h5, n5, hv5, hf⟩
  · refine zl_V X hR hl.1 (As := [.int x1, .int x2]) (rest := [.int (0 : Int32), .ref x3]) (C := RX9) (T := TX9) (N := 6) (ro := (fun v : Int32 => some (Value.int v)) v5) (mt_X9_cloth hT x0 x1 x2 h n hv5) rfl ho5 mf_X9_cloth q_1028 q_1029 q_1030 ⟨Nat.le_of_ble_eq_true rfl, Nat.le_of_ble_eq_true rfl⟩ ⟨Nat.le_of_ble_eq_true rfl, Nat.le_of_ble_eq_true rfl⟩ rfl (Nat.le_of_ble_eq_true rfl) dL_cloth_5 (fun H locs hR => ?_)
    refine W.eq (g2 := F0 m 8 ls [.int v5, .int (0 : Int32), .ref x3]) rfl ?_
    refine W.widen (k := 6) (n := 43) (Nat.le_of_ble_eq_true rfl) (Nat.le_of_ble_eq_true rfl) ?_
    refine lv_i2l hx hb dL_cloth_8 rfl ?_
    refine zr_last X hR (r := (some x3)) dL_cloth_9 hf (fun h9 H locs hf hR => ?_)
    refine lv_goto (tgt := 21) hx hb dL_cloth_10 (by decide) ?_
    refine lv_iconst (v := (0 : Int32)) hx hb dL_cloth_21 (by decide) ?_
    cases hf
    exact zl_iret X hR (Nat.le_refl _) dL_cloth_22 (Nat.le_of_ble_eq_true rfl) (Nat.le_of_ble_eq_true rfl)
  · refine zl_X X hR hl.1 (As := [.int x1, .int x2]) (rest := [.int (0 : Int32), .ref x3]) (C := RX9) (T := TX9) (N := 6) (k := k5) (mt_X9_cloth hT x0 x1 x2 h n hv5) rfl ho5 mf_X9_cloth q_1028 q_1029 q_1030 ⟨Nat.le_of_ble_eq_true rfl, Nat.le_of_ble_eq_true rfl⟩ ⟨Nat.le_of_ble_eq_true rfl, Nat.le_of_ble_eq_true rfl⟩ rfl (Nat.le_of_ble_eq_true rfl) dL_cloth_5 (fun H locs nn ce qq hnn hR hce hcv hcl => ?_)
    by_cases ck : k5 = 0
    · subst ck
      replace hf := zz_pos rfl hf
      refine zl_catch X hN hE (k := 0) [] [(0, 10, 17, 15)] (0, 10, 13, 13) rfl (by decide) (fun z hz => nomatch hz) rfl (by decide) q_338 q_349 hce hcv hcl ?_
      refine lv_astore (i := 4) (lv' := [(4, .ref qq)]) hx hb dL_cloth_13 (lv_sub hl [] rfl) (by decide) rfl (fun ls hl => ?_)
      refine lv_iconst (v := (1 : Int32)) hx hb dL_cloth_15 (by decide) ?_
      cases hf
      exact zl_iret X hR hnn dL_cloth_16 (Nat.le_of_ble_eq_true rfl) (Nat.le_of_ble_eq_true rfl)
    replace hf := zz_neg ck hf
    by_cases ck : k5 = 1
    · subst ck
      replace hf := zz_pos rfl hf
      refine zl_catch X hN hE (k := 1) [(0, 10, 13, 13)] [] (0, 10, 17, 15) rfl (by decide) (by intro z hz; simp only [List.mem_cons, List.not_mem_nil, or_false] at hz; rcases hz with rfl <;> first | exact ⟨by decide, 0, by decide, by decide, q_338⟩) rfl (by decide) q_339 q_422 hce hcv hcl ?_
      refine lv_astore (i := 4) (lv' := [(4, .ref qq)]) hx hb dL_cloth_17 (lv_sub hl [] rfl) (by decide) rfl (fun ls hl => ?_)
      refine lv_iconst (v := (2 : Int32)) hx hb dL_cloth_19 (by decide) ?_
      cases hf
      exact zl_iret X hR hnn dL_cloth_20 (Nat.le_of_ble_eq_true rfl) (Nat.le_of_ble_eq_true rfl)
    replace hf := zz_neg ck hf
    cases hf
def rm_L_flaw : Room := { frames := 9, cells := 3, slots := 18, locals := 155 }
theorem mf_L_flaw : Cond.codeWith yL_flaw cL_flaw 5 (some .int) [(0, 10, 13, 20), (0, 10, 17, 22), (0, 10, 21, 15)] ∈ zz_G ∧ Cond.initialized yL_flaw.cls ∈ zz_G ∧ (yL_flaw.cls ≠ "java/lang/invoke/MethodHandle" ∧ yL_flaw.cls ≠ "java/lang/invoke/VarHandle" ∧ (parseMethodDescriptor yL_flaw.desc).map (fun d => d.parameters.length) = some 4) := ⟨q_1058, q_0, by decide +kernel, by decide +kernel, by decide +kernel⟩
set_option maxHeartbeats 4000000 in
set_option maxRecDepth 100000 in
theorem mt_L_flaw {D : va_G} {dA : Nat → ClassId} {base t0 : Nat} {l : Launch} (hT : l.stackTraces = false) (x0 : Nat) (x1 : Int32) (x2 : Int32) (x3 : Nat) (h : zz_H) (n : Nat) {r0 : Int32} {hF : zz_H} {nF : Nat} (hf : f_L_flaw t0 x0 x1 x2 x3 h n = some (r0, hF, nF)) : zz_ML D dA base t0 l yL_flaw cL_flaw 5 [(0, 10, 13, 20), (0, 10, 17, 22), (0, 10, 21, 15)] rm_L_flaw [.ref x0, .int x1, .int x2, .ref x3] h n r0 hF nF := by
  refine zz_ofH (cc := cL_flaw) (maxL := 5) (ret := some .int) (by decide +kernel) rfl ?_
  intro p e s m args below meth c s₁ B hml hE hv
  obtain ⟨rfl, hP, hK, hN⟩ := hv
  have X : zz_X D dA base t0 "SpringseatLaw" cL_flaw 5 (some .int) l p s m meth c := ⟨B.exec, B.bytes, hml, B.returns, findClass_of_methodNamed B.named, B.notSynchronized, hT, by rw [hP.1]; exact hP.2.1, hK⟩
  have hx := X.1
  have hb := X.2.1
  have hown := X.2.2.2.2.1
  have hR : zz_R D dA base h n s s.heap [] := ⟨hP, va_S.rf⟩
  have hl := lv_entry ([.ref x0, .int x1, .int x2, .ref x3]) (n := 5) (by exact Nat.le_of_ble_eq_true rfl)
  rw [lg_entry_eq]
  generalize (lg_sl ([.ref x0, .int x1, .int x2, .ref x3]) ++ List.replicate (5 - (lg_sl ([.ref x0, .int x1, .int x2, .ref x3])).length) Slot.unset).toArray = ls at hl ⊢
  have hl : lv_has ls 5 [(0, .ref x0), (1, .int x1), (2, .int x2), (3, .ref x3)] := hl
  unfold f_L_flaw at hf
  refine lv_aload_n hx hb dL_flaw_0 rfl (lv_at hl 3 rfl) ?_
  refine lv_iconst (v := (0 : Int32)) hx hb dL_flaw_1 (by decide) ?_
  refine lv_aload_n hx hb dL_flaw_2 rfl (lv_at hl 0 rfl) ?_
  refine lv_iload_n hx hb dL_flaw_3 rfl (lv_at hl 1 rfl) ?_
  refine lv_iload_n hx hb dL_flaw_4 rfl (lv_at hl 2 rfl) ?_
  obtain ⟨fs5, ho5, hf⟩ := zz_obS_i hf
  rcases zz_th1_i hf with ⟨v5, h5, hv5, hf⟩ | ⟨k5, h5, hv5, hf⟩
  · refine zl_V X hR hl.1 (As := [.int x1, .int x2]) (rest := [.int (0 : Int32), .ref x3]) (C := RX9) (T := TX9) (N := 6) (ro := (fun v : Int32 => some (Value.int v)) v5) (mt_X9_flaw hT x0 x1 x2 h n hv5) rfl ho5 mf_X9_flaw q_1059 q_1060 q_1061 ⟨Nat.le_of_ble_eq_true rfl, Nat.le_of_ble_eq_true rfl⟩ ⟨Nat.le_of_ble_eq_true rfl, Nat.le_of_ble_eq_true rfl⟩ rfl (Nat.le_of_ble_eq_true rfl) dL_flaw_5 (fun H locs hR => ?_)
    refine W.eq (g2 := F0 m 8 ls [.int v5, .int (0 : Int32), .ref x3]) rfl ?_
    refine W.widen (k := 3) (n := 18) (Nat.le_of_ble_eq_true rfl) (Nat.le_of_ble_eq_true rfl) ?_
    refine lv_i2l hx hb dL_flaw_8 rfl ?_
    refine zr_last X hR (r := (some x3)) dL_flaw_9 hf (fun h9 H locs hf hR => ?_)
    refine lv_goto (tgt := 25) hx hb dL_flaw_10 (by decide) ?_
    refine lv_iconst (v := (0 : Int32)) hx hb dL_flaw_25 (by decide) ?_
    cases hf
    exact zl_iret X hR (Nat.le_refl _) dL_flaw_26 (Nat.le_of_ble_eq_true rfl) (Nat.le_of_ble_eq_true rfl)
  · refine zl_X X hR hl.1 (As := [.int x1, .int x2]) (rest := [.int (0 : Int32), .ref x3]) (C := RX9) (T := TX9) (N := 6) (k := k5) (mt_X9_flaw hT x0 x1 x2 h n hv5) rfl ho5 mf_X9_flaw q_1059 q_1060 q_1061 ⟨Nat.le_of_ble_eq_true rfl, Nat.le_of_ble_eq_true rfl⟩ ⟨Nat.le_of_ble_eq_true rfl, Nat.le_of_ble_eq_true rfl⟩ rfl (Nat.le_of_ble_eq_true rfl) dL_flaw_5 (fun H locs nn ce qq hnn hR hce hcv hcl => ?_)
    by_cases ck : k5 = 2
    · subst ck
      replace hf := zz_pos rfl hf
      refine zl_catch X hN hE (k := 2) [] [(0, 10, 17, 22), (0, 10, 21, 15)] (0, 10, 13, 20) rfl (by decide) (fun z hz => nomatch hz) rfl (by decide) q_576 q_591 hce hcv hcl ?_
      refine lv_astore (i := 4) (lv' := [(4, .ref qq)]) hx hb dL_flaw_13 (lv_sub hl [] rfl) (by decide) rfl (fun ls hl => ?_)
      refine lv_iconst (v := (1 : Int32)) hx hb dL_flaw_15 (by decide) ?_
      cases hf
      exact zl_iret X hR hnn dL_flaw_16 (Nat.le_of_ble_eq_true rfl) (Nat.le_of_ble_eq_true rfl)
    replace hf := zz_neg ck hf
    by_cases ck : k5 = 3
    · subst ck
      replace hf := zz_pos rfl hf
      refine zl_catch X hN hE (k := 3) [(0, 10, 13, 20)] [(0, 10, 21, 15)] (0, 10, 17, 22) rfl (by decide) (by intro z hz; simp only [List.mem_cons, List.not_mem_nil, or_false] at hz; rcases hz with rfl <;> first | exact ⟨by decide, 2, by decide, by decide, q_576⟩) rfl (by decide) q_577 q_618 hce hcv hcl ?_
      refine lv_astore (i := 4) (lv' := [(4, .ref qq)]) hx hb dL_flaw_17 (lv_sub hl [] rfl) (by decide) rfl (fun ls hl => ?_)
      refine lv_iconst (v := (2 : Int32)) hx hb dL_flaw_19 (by decide) ?_
      cases hf
      exact zl_iret X hR hnn dL_flaw_20 (Nat.le_of_ble_eq_true rfl) (Nat.le_of_ble_eq_true rfl)
    replace hf := zz_neg ck hf
    by_cases ck : k5 = 1
    · subst ck
      replace hf := zz_pos rfl hf
      refine zl_catch X hN hE (k := 1) [(0, 10, 13, 20), (0, 10, 17, 22)] [] (0, 10, 21, 15) rfl (by decide) (by intro z hz; simp only [List.mem_cons, List.not_mem_nil, or_false] at hz; rcases hz with rfl | rfl <;> first | exact ⟨by decide, 2, by decide, by decide, q_576⟩ | exact ⟨by decide, 3, by decide, by decide, q_577⟩) rfl (by decide) q_339 q_422 hce hcv hcl ?_
      refine lv_astore (i := 4) (lv' := [(4, .ref qq)]) hx hb dL_flaw_21 (lv_sub hl [] rfl) (by decide) rfl (fun ls hl => ?_)
      refine lv_iconst (v := (3 : Int32)) hx hb dL_flaw_23 (by decide) ?_
      cases hf
      exact zl_iret X hR hnn dL_flaw_24 (Nat.le_of_ble_eq_true rfl) (Nat.le_of_ble_eq_true rfl)
    replace hf := zz_neg ck hf
    cases hf
def rm_L_left : Room := { frames := 9, cells := 1, slots := 6, locals := 154 }
theorem mf_L_left : Cond.codeWith yL_left cL_left 4 (some .int) [(0, 9, 12, 20)] ∈ zz_G ∧ Cond.initialized yL_left.cls ∈ zz_G ∧ (yL_left.cls ≠ "java/lang/invoke/MethodHandle" ∧ yL_left.cls ≠ "java/lang/invoke/VarHandle" ∧ (parseMethodDescriptor yL_left.desc).map (fun d => d.parameters.length) = some 3) := ⟨q_1071, q_0, by decide +kernel, by decide +kernel, by decide +kernel⟩
set_option maxHeartbeats 4000000 in
set_option maxRecDepth 100000 in
theorem mt_L_left {D : va_G} {dA : Nat → ClassId} {base t0 : Nat} {l : Launch} (hT : l.stackTraces = false) (x0 : Nat) (x1 : Int32) (x2 : Nat) (h : zz_H) (n : Nat) {r0 : Int32} {hF : zz_H} {nF : Nat} (hf : f_L_left t0 x0 x1 x2 h n = some (r0, hF, nF)) : zz_ML D dA base t0 l yL_left cL_left 4 [(0, 9, 12, 20)] rm_L_left [.ref x0, .int x1, .ref x2] h n r0 hF nF := by
  refine zz_ofH (cc := cL_left) (maxL := 4) (ret := some .int) (by decide +kernel) rfl ?_
  intro p e s m args below meth c s₁ B hml hE hv
  obtain ⟨rfl, hP, hK, hN⟩ := hv
  have X : zz_X D dA base t0 "SpringseatLaw" cL_left 4 (some .int) l p s m meth c := ⟨B.exec, B.bytes, hml, B.returns, findClass_of_methodNamed B.named, B.notSynchronized, hT, by rw [hP.1]; exact hP.2.1, hK⟩
  have hx := X.1
  have hb := X.2.1
  have hown := X.2.2.2.2.1
  have hR : zz_R D dA base h n s s.heap [] := ⟨hP, va_S.rf⟩
  have hl := lv_entry ([.ref x0, .int x1, .ref x2]) (n := 4) (by exact Nat.le_of_ble_eq_true rfl)
  rw [lg_entry_eq]
  generalize (lg_sl ([.ref x0, .int x1, .ref x2]) ++ List.replicate (4 - (lg_sl ([.ref x0, .int x1, .ref x2])).length) Slot.unset).toArray = ls at hl ⊢
  have hl : lv_has ls 4 [(0, .ref x0), (1, .int x1), (2, .ref x2)] := hl
  unfold f_L_left at hf
  refine lv_aload_n hx hb dL_left_0 rfl (lv_at hl 2 rfl) ?_
  refine lv_iconst (v := (0 : Int32)) hx hb dL_left_1 (by decide) ?_
  refine lv_aload_n hx hb dL_left_2 rfl (lv_at hl 0 rfl) ?_
  refine lv_iload_n hx hb dL_left_3 rfl (lv_at hl 1 rfl) ?_
  obtain ⟨fs4, ho4, hf⟩ := zz_obS_i hf
  rcases zz_th_i hf with ⟨v4, hv4, hf⟩ | ⟨k4, hv4, hf⟩
  · refine zl_V X hR hl.1 (As := [.int x1]) (rest := [.int (0 : Int32), .ref x2]) (C := RX9) (T := TX9) (N := 6) (ro := (fun v : Int32 => some (Value.int v)) v4) (mt_X9_left hT x0 x1 h n hv4) rfl ho4 mf_X9_left q_1072 q_1073 q_1074 ⟨Nat.le_of_ble_eq_true rfl, Nat.le_of_ble_eq_true rfl⟩ ⟨Nat.le_of_ble_eq_true rfl, Nat.le_of_ble_eq_true rfl⟩ rfl (Nat.le_of_ble_eq_true rfl) dL_left_4 (fun H locs hR => ?_)
    refine W.eq (g2 := F0 m 7 ls [.int v4, .int (0 : Int32), .ref x2]) rfl ?_
    refine W.widen (k := 1) (n := 6) (Nat.le_of_ble_eq_true rfl) (Nat.le_of_ble_eq_true rfl) ?_
    refine lv_i2l hx hb dL_left_7 rfl ?_
    refine zr_last X hR (r := (some x2)) dL_left_8 hf (fun h8 H locs hf hR => ?_)
    refine lv_goto (tgt := 15) hx hb dL_left_9 (by decide) ?_
    refine lv_iconst (v := (0 : Int32)) hx hb dL_left_15 (by decide) ?_
    cases hf
    exact zl_iret X hR (Nat.le_refl _) dL_left_16 (Nat.le_of_ble_eq_true rfl) (Nat.le_of_ble_eq_true rfl)
  · refine zl_X X hR hl.1 (As := [.int x1]) (rest := [.int (0 : Int32), .ref x2]) (C := RX9) (T := TX9) (N := 6) (k := k4) (mt_X9_left hT x0 x1 h n hv4) rfl ho4 mf_X9_left q_1072 q_1073 q_1074 ⟨Nat.le_of_ble_eq_true rfl, Nat.le_of_ble_eq_true rfl⟩ ⟨Nat.le_of_ble_eq_true rfl, Nat.le_of_ble_eq_true rfl⟩ rfl (Nat.le_of_ble_eq_true rfl) dL_left_4 (fun H locs nn ce qq hnn hR hce hcv hcl => ?_)
    by_cases ck : k4 = 2
    · subst ck
      replace hf := zz_pos rfl hf
      refine zl_catch X hN hE (k := 2) [] [] (0, 9, 12, 20) rfl (by decide) (fun z hz => nomatch hz) rfl (by decide) q_576 q_591 hce hcv hcl ?_
      refine lv_astore_n (i := 3) (lv' := [(3, .ref qq)]) hx hb dL_left_12 rfl (lv_sub hl [] rfl) (by decide) rfl (fun ls hl => ?_)
      refine lv_iconst (v := (1 : Int32)) hx hb dL_left_13 (by decide) ?_
      cases hf
      exact zl_iret X hR hnn dL_left_14 (Nat.le_of_ble_eq_true rfl) (Nat.le_of_ble_eq_true rfl)
    replace hf := zz_neg ck hf
    cases hf
def rm_L_panel : Room := { frames := 9, cells := 2, slots := 12, locals := 155 }
theorem mf_L_panel : Cond.codeWith yL_panel cL_panel 5 (some .int) [(0, 10, 13, 20), (0, 10, 17, 53)] ∈ zz_G ∧ Cond.initialized yL_panel.cls ∈ zz_G ∧ (yL_panel.cls ≠ "java/lang/invoke/MethodHandle" ∧ yL_panel.cls ≠ "java/lang/invoke/VarHandle" ∧ (parseMethodDescriptor yL_panel.desc).map (fun d => d.parameters.length) = some 4) := ⟨q_1078, q_0, by decide +kernel, by decide +kernel, by decide +kernel⟩
set_option maxHeartbeats 4000000 in
set_option maxRecDepth 100000 in
theorem mt_L_panel {D : va_G} {dA : Nat → ClassId} {base t0 : Nat} {l : Launch} (hT : l.stackTraces = false) (x0 : Nat) (x1 : Int32) (x2 : Int32) (x3 : Nat) (h : zz_H) (n : Nat) {r0 : Int32} {hF : zz_H} {nF : Nat} (hf : f_L_panel t0 x0 x1 x2 x3 h n = some (r0, hF, nF)) : zz_ML D dA base t0 l yL_panel cL_panel 5 [(0, 10, 13, 20), (0, 10, 17, 53)] rm_L_panel [.ref x0, .int x1, .int x2, .ref x3] h n r0 hF nF := by
  refine zz_ofH (cc := cL_panel) (maxL := 5) (ret := some .int) (by decide +kernel) rfl ?_
  intro p e s m args below meth c s₁ B hml hE hv
  obtain ⟨rfl, hP, hK, hN⟩ := hv
  have X : zz_X D dA base t0 "SpringseatLaw" cL_panel 5 (some .int) l p s m meth c := ⟨B.exec, B.bytes, hml, B.returns, findClass_of_methodNamed B.named, B.notSynchronized, hT, by rw [hP.1]; exact hP.2.1, hK⟩
  have hx := X.1
  have hb := X.2.1
  have hown := X.2.2.2.2.1
  have hR : zz_R D dA base h n s s.heap [] := ⟨hP, va_S.rf⟩
  have hl := lv_entry ([.ref x0, .int x1, .int x2, .ref x3]) (n := 5) (by exact Nat.le_of_ble_eq_true rfl)
  rw [lg_entry_eq]
  generalize (lg_sl ([.ref x0, .int x1, .int x2, .ref x3]) ++ List.replicate (5 - (lg_sl ([.ref x0, .int x1, .int x2, .ref x3])).length) Slot.unset).toArray = ls at hl ⊢
  have hl : lv_has ls 5 [(0, .ref x0), (1, .int x1), (2, .int x2), (3, .ref x3)] := hl
  unfold f_L_panel at hf
  refine lv_aload_n hx hb dL_panel_0 rfl (lv_at hl 3 rfl) ?_
  refine lv_iconst (v := (0 : Int32)) hx hb dL_panel_1 (by decide) ?_
  refine lv_aload_n hx hb dL_panel_2 rfl (lv_at hl 0 rfl) ?_
  refine lv_iload_n hx hb dL_panel_3 rfl (lv_at hl 1 rfl) ?_
  refine lv_iload_n hx hb dL_panel_4 rfl (lv_at hl 2 rfl) ?_
  obtain ⟨fs5, ho5, hf⟩ := zz_obS_i hf
  rcases zz_th_i hf with ⟨v5, hv5, hf⟩ | ⟨k5, hv5, hf⟩
  · refine zl_V X hR hl.1 (As := [.int x1, .int x2]) (rest := [.int (0 : Int32), .ref x3]) (C := RX9) (T := TX9) (N := 6) (ro := (fun v : Int32 => some (Value.int v)) v5) (mt_X9_panel hT x0 x1 x2 h n hv5) rfl ho5 mf_X9_panel q_1079 q_1080 q_1081 ⟨Nat.le_of_ble_eq_true rfl, Nat.le_of_ble_eq_true rfl⟩ ⟨Nat.le_of_ble_eq_true rfl, Nat.le_of_ble_eq_true rfl⟩ rfl (Nat.le_of_ble_eq_true rfl) dL_panel_5 (fun H locs hR => ?_)
    refine W.eq (g2 := F0 m 8 ls [.int v5, .int (0 : Int32), .ref x3]) rfl ?_
    refine W.widen (k := 2) (n := 12) (Nat.le_of_ble_eq_true rfl) (Nat.le_of_ble_eq_true rfl) ?_
    refine lv_i2l hx hb dL_panel_8 rfl ?_
    refine zr_last X hR (r := (some x3)) dL_panel_9 hf (fun h9 H locs hf hR => ?_)
    refine lv_goto (tgt := 21) hx hb dL_panel_10 (by decide) ?_
    refine lv_iconst (v := (0 : Int32)) hx hb dL_panel_21 (by decide) ?_
    cases hf
    exact zl_iret X hR (Nat.le_refl _) dL_panel_22 (Nat.le_of_ble_eq_true rfl) (Nat.le_of_ble_eq_true rfl)
  · refine zl_X X hR hl.1 (As := [.int x1, .int x2]) (rest := [.int (0 : Int32), .ref x3]) (C := RX9) (T := TX9) (N := 6) (k := k5) (mt_X9_panel hT x0 x1 x2 h n hv5) rfl ho5 mf_X9_panel q_1079 q_1080 q_1081 ⟨Nat.le_of_ble_eq_true rfl, Nat.le_of_ble_eq_true rfl⟩ ⟨Nat.le_of_ble_eq_true rfl, Nat.le_of_ble_eq_true rfl⟩ rfl (Nat.le_of_ble_eq_true rfl) dL_panel_5 (fun H locs nn ce qq hnn hR hce hcv hcl => ?_)
    by_cases ck : k5 = 2
    · subst ck
      replace hf := zz_pos rfl hf
      refine zl_catch X hN hE (k := 2) [] [(0, 10, 17, 53)] (0, 10, 13, 20) rfl (by decide) (fun z hz => nomatch hz) rfl (by decide) q_576 q_591 hce hcv hcl ?_
      refine lv_astore (i := 4) (lv' := [(4, .ref qq)]) hx hb dL_panel_13 (lv_sub hl [] rfl) (by decide) rfl (fun ls hl => ?_)
      refine lv_iconst (v := (1 : Int32)) hx hb dL_panel_15 (by decide) ?_
      cases hf
      exact zl_iret X hR hnn dL_panel_16 (Nat.le_of_ble_eq_true rfl) (Nat.le_of_ble_eq_true rfl)
    replace hf := zz_neg ck hf
    by_cases ck : k5 = 4
    · subst ck
      replace hf := zz_pos rfl hf
      refine zl_catch X hN hE (k := 4) [(0, 10, 13, 20)] [] (0, 10, 17, 53) rfl (by decide) (by intro z hz; simp only [List.mem_cons, List.not_mem_nil, or_false] at hz; rcases hz with rfl <;> first | exact ⟨by decide, 2, by decide, by decide, q_576⟩) rfl (by decide) q_768 q_802 hce hcv hcl ?_
      refine lv_astore (i := 4) (lv' := [(4, .ref qq)]) hx hb dL_panel_17 (lv_sub hl [] rfl) (by decide) rfl (fun ls hl => ?_)
      refine lv_iconst (v := (2 : Int32)) hx hb dL_panel_19 (by decide) ?_
      cases hf
      exact zl_iret X hR hnn dL_panel_20 (Nat.le_of_ble_eq_true rfl) (Nat.le_of_ble_eq_true rfl)
    replace hf := zz_neg ck hf
    cases hf
def rm_L_use : Room := { frames := 9, cells := 4, slots := 24, locals := 174 }
theorem mf_L_use : Cond.codeWith yL_use cL_use 5 (some .int) [(0, 10, 13, 20), (0, 10, 17, 13), (0, 10, 21, 22)] ∈ zz_G ∧ Cond.initialized yL_use.cls ∈ zz_G ∧ (yL_use.cls ≠ "java/lang/invoke/MethodHandle" ∧ yL_use.cls ≠ "java/lang/invoke/VarHandle" ∧ (parseMethodDescriptor yL_use.desc).map (fun d => d.parameters.length) = some 4) := ⟨q_1086, q_0, by decide +kernel, by decide +kernel, by decide +kernel⟩
set_option maxHeartbeats 4000000 in
set_option maxRecDepth 100000 in
theorem mt_L_use {D : va_G} {dA : Nat → ClassId} {base t0 : Nat} {l : Launch} (hT : l.stackTraces = false) (x0 : Nat) (x1 : Int32) (x2 : Int32) (x3 : Nat) (h : zz_H) (n : Nat) {r0 : Int32} {hF : zz_H} {nF : Nat} (hf : f_L_use t0 x0 x1 x2 x3 h n = some (r0, hF, nF)) : zz_ML D dA base t0 l yL_use cL_use 5 [(0, 10, 13, 20), (0, 10, 17, 13), (0, 10, 21, 22)] rm_L_use [.ref x0, .int x1, .int x2, .ref x3] h n r0 hF nF := by
  refine zz_ofH (cc := cL_use) (maxL := 5) (ret := some .int) (by decide +kernel) rfl ?_
  intro p e s m args below meth c s₁ B hml hE hv
  obtain ⟨rfl, hP, hK, hN⟩ := hv
  have X : zz_X D dA base t0 "SpringseatLaw" cL_use 5 (some .int) l p s m meth c := ⟨B.exec, B.bytes, hml, B.returns, findClass_of_methodNamed B.named, B.notSynchronized, hT, by rw [hP.1]; exact hP.2.1, hK⟩
  have hx := X.1
  have hb := X.2.1
  have hown := X.2.2.2.2.1
  have hR : zz_R D dA base h n s s.heap [] := ⟨hP, va_S.rf⟩
  have hl := lv_entry ([.ref x0, .int x1, .int x2, .ref x3]) (n := 5) (by exact Nat.le_of_ble_eq_true rfl)
  rw [lg_entry_eq]
  generalize (lg_sl ([.ref x0, .int x1, .int x2, .ref x3]) ++ List.replicate (5 - (lg_sl ([.ref x0, .int x1, .int x2, .ref x3])).length) Slot.unset).toArray = ls at hl ⊢
  have hl : lv_has ls 5 [(0, .ref x0), (1, .int x1), (2, .int x2), (3, .ref x3)] := hl
  unfold f_L_use at hf
  refine lv_aload_n hx hb dL_use_0 rfl (lv_at hl 3 rfl) ?_
  refine lv_iconst (v := (0 : Int32)) hx hb dL_use_1 (by decide) ?_
  refine lv_aload_n hx hb dL_use_2 rfl (lv_at hl 0 rfl) ?_
  refine lv_iload_n hx hb dL_use_3 rfl (lv_at hl 1 rfl) ?_
  refine lv_iload_n hx hb dL_use_4 rfl (lv_at hl 2 rfl) ?_
  obtain ⟨fs5, ho5, hf⟩ := zz_obS_i hf
  rcases zz_th1_i hf with ⟨v5, h5, hv5, hf⟩ | ⟨k5, h5, hv5, hf⟩
  · refine zl_V X hR hl.1 (As := [.int x1, .int x2]) (rest := [.int (0 : Int32), .ref x3]) (C := RX9) (T := TX9) (N := 6) (ro := (fun v : Int32 => some (Value.int v)) v5) (mt_X9_use hT x0 x1 x2 h n hv5) rfl ho5 mf_X9_use q_1087 q_1088 q_1089 ⟨Nat.le_of_ble_eq_true rfl, Nat.le_of_ble_eq_true rfl⟩ ⟨Nat.le_of_ble_eq_true rfl, Nat.le_of_ble_eq_true rfl⟩ rfl (Nat.le_of_ble_eq_true rfl) dL_use_5 (fun H locs hR => ?_)
    refine W.eq (g2 := F0 m 8 ls [.int v5, .int (0 : Int32), .ref x3]) rfl ?_
    refine W.widen (k := 4) (n := 24) (Nat.le_of_ble_eq_true rfl) (Nat.le_of_ble_eq_true rfl) ?_
    refine lv_i2l hx hb dL_use_8 rfl ?_
    refine zr_last X hR (r := (some x3)) dL_use_9 hf (fun h9 H locs hf hR => ?_)
    refine lv_goto (tgt := 25) hx hb dL_use_10 (by decide) ?_
    refine lv_iconst (v := (0 : Int32)) hx hb dL_use_25 (by decide) ?_
    cases hf
    exact zl_iret X hR (Nat.le_refl _) dL_use_26 (Nat.le_of_ble_eq_true rfl) (Nat.le_of_ble_eq_true rfl)
  · refine zl_X X hR hl.1 (As := [.int x1, .int x2]) (rest := [.int (0 : Int32), .ref x3]) (C := RX9) (T := TX9) (N := 6) (k := k5) (mt_X9_use hT x0 x1 x2 h n hv5) rfl ho5 mf_X9_use q_1087 q_1088 q_1089 ⟨Nat.le_of_ble_eq_true rfl, Nat.le_of_ble_eq_true rfl⟩ ⟨Nat.le_of_ble_eq_true rfl, Nat.le_of_ble_eq_true rfl⟩ rfl (Nat.le_of_ble_eq_true rfl) dL_use_5 (fun H locs nn ce qq hnn hR hce hcv hcl => ?_)
    by_cases ck : k5 = 2
    · subst ck
      replace hf := zz_pos rfl hf
      refine zl_catch X hN hE (k := 2) [] [(0, 10, 17, 13), (0, 10, 21, 22)] (0, 10, 13, 20) rfl (by decide) (fun z hz => nomatch hz) rfl (by decide) q_576 q_591 hce hcv hcl ?_
      refine lv_astore (i := 4) (lv' := [(4, .ref qq)]) hx hb dL_use_13 (lv_sub hl [] rfl) (by decide) rfl (fun ls hl => ?_)
      refine lv_iconst (v := (1 : Int32)) hx hb dL_use_15 (by decide) ?_
      cases hf
      exact zl_iret X hR hnn dL_use_16 (Nat.le_of_ble_eq_true rfl) (Nat.le_of_ble_eq_true rfl)
    replace hf := zz_neg ck hf
    by_cases ck : k5 = 0
    · subst ck
      replace hf := zz_pos rfl hf
      refine zl_catch X hN hE (k := 0) [(0, 10, 13, 20)] [(0, 10, 21, 22)] (0, 10, 17, 13) rfl (by decide) (by intro z hz; simp only [List.mem_cons, List.not_mem_nil, or_false] at hz; rcases hz with rfl <;> first | exact ⟨by decide, 2, by decide, by decide, q_576⟩) rfl (by decide) q_338 q_349 hce hcv hcl ?_
      refine lv_astore (i := 4) (lv' := [(4, .ref qq)]) hx hb dL_use_17 (lv_sub hl [] rfl) (by decide) rfl (fun ls hl => ?_)
      refine lv_iconst (v := (2 : Int32)) hx hb dL_use_19 (by decide) ?_
      cases hf
      exact zl_iret X hR hnn dL_use_20 (Nat.le_of_ble_eq_true rfl) (Nat.le_of_ble_eq_true rfl)
    replace hf := zz_neg ck hf
    by_cases ck : k5 = 3
    · subst ck
      replace hf := zz_pos rfl hf
      refine zl_catch X hN hE (k := 3) [(0, 10, 13, 20), (0, 10, 17, 13)] [] (0, 10, 21, 22) rfl (by decide) (by intro z hz; simp only [List.mem_cons, List.not_mem_nil, or_false] at hz; rcases hz with rfl | rfl <;> first | exact ⟨by decide, 2, by decide, by decide, q_576⟩ | exact ⟨by decide, 0, by decide, by decide, q_338⟩) rfl (by decide) q_577 q_618 hce hcv hcl ?_
      refine lv_astore (i := 4) (lv' := [(4, .ref qq)]) hx hb dL_use_21 (lv_sub hl [] rfl) (by decide) rfl (fun ls hl => ?_)
      refine lv_iconst (v := (3 : Int32)) hx hb dL_use_23 (by decide) ?_
      cases hf
      exact zl_iret X hR hnn dL_use_24 (Nat.le_of_ble_eq_true rfl) (Nat.le_of_ble_eq_true rfl)
    replace hf := zz_neg ck hf
    cases hf
def rm_L_pound : Room := { frames := 9, cells := 4, slots := 24, locals := 174 }
theorem mf_L_pound : Cond.codeWith yL_pound cL_pound 5 (some .int) [(0, 10, 13, 20), (0, 10, 17, 13), (0, 10, 21, 22)] ∈ zz_G ∧ Cond.initialized yL_pound.cls ∈ zz_G ∧ (yL_pound.cls ≠ "java/lang/invoke/MethodHandle" ∧ yL_pound.cls ≠ "java/lang/invoke/VarHandle" ∧ (parseMethodDescriptor yL_pound.desc).map (fun d => d.parameters.length) = some 4) := ⟨q_1115, q_0, by decide +kernel, by decide +kernel, by decide +kernel⟩
set_option maxHeartbeats 4000000 in
set_option maxRecDepth 100000 in
theorem mt_L_pound {D : va_G} {dA : Nat → ClassId} {base t0 : Nat} {l : Launch} (hT : l.stackTraces = false) (x0 : Nat) (x1 : Int32) (x2 : Int32) (x3 : Nat) (h : zz_H) (n : Nat) {r0 : Int32} {hF : zz_H} {nF : Nat} (hf : f_L_pound t0 x0 x1 x2 x3 h n = some (r0, hF, nF)) : zz_ML D dA base t0 l yL_pound cL_pound 5 [(0, 10, 13, 20), (0, 10, 17, 13), (0, 10, 21, 22)] rm_L_pound [.ref x0, .int x1, .int x2, .ref x3] h n r0 hF nF := by
  refine zz_ofH (cc := cL_pound) (maxL := 5) (ret := some .int) (by decide +kernel) rfl ?_
  intro p e s m args below meth c s₁ B hml hE hv
  obtain ⟨rfl, hP, hK, hN⟩ := hv
  have X : zz_X D dA base t0 "SpringseatLaw" cL_pound 5 (some .int) l p s m meth c := ⟨B.exec, B.bytes, hml, B.returns, findClass_of_methodNamed B.named, B.notSynchronized, hT, by rw [hP.1]; exact hP.2.1, hK⟩
  have hx := X.1
  have hb := X.2.1
  have hown := X.2.2.2.2.1
  have hR : zz_R D dA base h n s s.heap [] := ⟨hP, va_S.rf⟩
  have hl := lv_entry ([.ref x0, .int x1, .int x2, .ref x3]) (n := 5) (by exact Nat.le_of_ble_eq_true rfl)
  rw [lg_entry_eq]
  generalize (lg_sl ([.ref x0, .int x1, .int x2, .ref x3]) ++ List.replicate (5 - (lg_sl ([.ref x0, .int x1, .int x2, .ref x3])).length) Slot.unset).toArray = ls at hl ⊢
  have hl : lv_has ls 5 [(0, .ref x0), (1, .int x1), (2, .int x2), (3, .ref x3)] := hl
  unfold f_L_pound at hf
  refine lv_aload_n hx hb dL_pound_0 rfl (lv_at hl 3 rfl) ?_
  refine lv_iconst (v := (0 : Int32)) hx hb dL_pound_1 (by decide) ?_
  refine lv_aload_n hx hb dL_pound_2 rfl (lv_at hl 0 rfl) ?_
  refine lv_iload_n hx hb dL_pound_3 rfl (lv_at hl 1 rfl) ?_
  refine lv_iload_n hx hb dL_pound_4 rfl (lv_at hl 2 rfl) ?_
  obtain ⟨fs5, ho5, hf⟩ := zz_obS_i hf
  rcases zz_th1_i hf with ⟨v5, h5, hv5, hf⟩ | ⟨k5, h5, hv5, hf⟩
  · refine zl_V X hR hl.1 (As := [.int x1, .int x2]) (rest := [.int (0 : Int32), .ref x3]) (C := RX9) (T := TX9) (N := 6) (ro := (fun v : Int32 => some (Value.int v)) v5) (mt_X9_pound hT x0 x1 x2 h n hv5) rfl ho5 mf_X9_pound q_1116 q_1117 q_1118 ⟨Nat.le_of_ble_eq_true rfl, Nat.le_of_ble_eq_true rfl⟩ ⟨Nat.le_of_ble_eq_true rfl, Nat.le_of_ble_eq_true rfl⟩ rfl (Nat.le_of_ble_eq_true rfl) dL_pound_5 (fun H locs hR => ?_)
    refine W.eq (g2 := F0 m 8 ls [.int v5, .int (0 : Int32), .ref x3]) rfl ?_
    refine W.widen (k := 4) (n := 24) (Nat.le_of_ble_eq_true rfl) (Nat.le_of_ble_eq_true rfl) ?_
    refine lv_i2l hx hb dL_pound_8 rfl ?_
    refine zr_last X hR (r := (some x3)) dL_pound_9 hf (fun h9 H locs hf hR => ?_)
    refine lv_goto (tgt := 25) hx hb dL_pound_10 (by decide) ?_
    refine lv_iconst (v := (0 : Int32)) hx hb dL_pound_25 (by decide) ?_
    cases hf
    exact zl_iret X hR (Nat.le_refl _) dL_pound_26 (Nat.le_of_ble_eq_true rfl) (Nat.le_of_ble_eq_true rfl)
  · refine zl_X X hR hl.1 (As := [.int x1, .int x2]) (rest := [.int (0 : Int32), .ref x3]) (C := RX9) (T := TX9) (N := 6) (k := k5) (mt_X9_pound hT x0 x1 x2 h n hv5) rfl ho5 mf_X9_pound q_1116 q_1117 q_1118 ⟨Nat.le_of_ble_eq_true rfl, Nat.le_of_ble_eq_true rfl⟩ ⟨Nat.le_of_ble_eq_true rfl, Nat.le_of_ble_eq_true rfl⟩ rfl (Nat.le_of_ble_eq_true rfl) dL_pound_5 (fun H locs nn ce qq hnn hR hce hcv hcl => ?_)
    by_cases ck : k5 = 2
    · subst ck
      replace hf := zz_pos rfl hf
      refine zl_catch X hN hE (k := 2) [] [(0, 10, 17, 13), (0, 10, 21, 22)] (0, 10, 13, 20) rfl (by decide) (fun z hz => nomatch hz) rfl (by decide) q_576 q_591 hce hcv hcl ?_
      refine lv_astore (i := 4) (lv' := [(4, .ref qq)]) hx hb dL_pound_13 (lv_sub hl [] rfl) (by decide) rfl (fun ls hl => ?_)
      refine lv_iconst (v := (1 : Int32)) hx hb dL_pound_15 (by decide) ?_
      cases hf
      exact zl_iret X hR hnn dL_pound_16 (Nat.le_of_ble_eq_true rfl) (Nat.le_of_ble_eq_true rfl)
    replace hf := zz_neg ck hf
    by_cases ck : k5 = 0
    · subst ck
      replace hf := zz_pos rfl hf
      refine zl_catch X hN hE (k := 0) [(0, 10, 13, 20)] [(0, 10, 21, 22)] (0, 10, 17, 13) rfl (by decide) (by intro z hz; simp only [List.mem_cons, List.not_mem_nil, or_false] at hz; rcases hz with rfl <;> first | exact ⟨by decide, 2, by decide, by decide, q_576⟩) rfl (by decide) q_338 q_349 hce hcv hcl ?_
      refine lv_astore (i := 4) (lv' := [(4, .ref qq)]) hx hb dL_pound_17 (lv_sub hl [] rfl) (by decide) rfl (fun ls hl => ?_)
      refine lv_iconst (v := (2 : Int32)) hx hb dL_pound_19 (by decide) ?_
      cases hf
      exact zl_iret X hR hnn dL_pound_20 (Nat.le_of_ble_eq_true rfl) (Nat.le_of_ble_eq_true rfl)
    replace hf := zz_neg ck hf
    by_cases ck : k5 = 3
    · subst ck
      replace hf := zz_pos rfl hf
      refine zl_catch X hN hE (k := 3) [(0, 10, 13, 20), (0, 10, 17, 13)] [] (0, 10, 21, 22) rfl (by decide) (by intro z hz; simp only [List.mem_cons, List.not_mem_nil, or_false] at hz; rcases hz with rfl | rfl <;> first | exact ⟨by decide, 2, by decide, by decide, q_576⟩ | exact ⟨by decide, 0, by decide, by decide, q_338⟩) rfl (by decide) q_577 q_618 hce hcv hcl ?_
      refine lv_astore (i := 4) (lv' := [(4, .ref qq)]) hx hb dL_pound_21 (lv_sub hl [] rfl) (by decide) rfl (fun ls hl => ?_)
      refine lv_iconst (v := (3 : Int32)) hx hb dL_pound_23 (by decide) ?_
      cases hf
      exact zl_iret X hR hnn dL_pound_24 (Nat.le_of_ble_eq_true rfl) (Nat.le_of_ble_eq_true rfl)
    replace hf := zz_neg ck hf
    cases hf
def rm_L_hours : Room := { frames := 9, cells := 2, slots := 12, locals := 154 }
theorem mf_L_hours : Cond.codeWith yL_hours cL_hours 4 (some .int) [(0, 9, 12, 20), (0, 9, 15, 22)] ∈ zz_G ∧ Cond.initialized yL_hours.cls ∈ zz_G ∧ (yL_hours.cls ≠ "java/lang/invoke/MethodHandle" ∧ yL_hours.cls ≠ "java/lang/invoke/VarHandle" ∧ (parseMethodDescriptor yL_hours.desc).map (fun d => d.parameters.length) = some 3) := ⟨q_1122, q_0, by decide +kernel, by decide +kernel, by decide +kernel⟩
set_option maxHeartbeats 4000000 in
set_option maxRecDepth 100000 in
theorem mt_L_hours {D : va_G} {dA : Nat → ClassId} {base t0 : Nat} {l : Launch} (hT : l.stackTraces = false) (x0 : Nat) (x1 : Int32) (x2 : Nat) (h : zz_H) (n : Nat) {r0 : Int32} {hF : zz_H} {nF : Nat} (hf : f_L_hours t0 x0 x1 x2 h n = some (r0, hF, nF)) : zz_ML D dA base t0 l yL_hours cL_hours 4 [(0, 9, 12, 20), (0, 9, 15, 22)] rm_L_hours [.ref x0, .int x1, .ref x2] h n r0 hF nF := by
  refine zz_ofH (cc := cL_hours) (maxL := 4) (ret := some .int) (by decide +kernel) rfl ?_
  intro p e s m args below meth c s₁ B hml hE hv
  obtain ⟨rfl, hP, hK, hN⟩ := hv
  have X : zz_X D dA base t0 "SpringseatLaw" cL_hours 4 (some .int) l p s m meth c := ⟨B.exec, B.bytes, hml, B.returns, findClass_of_methodNamed B.named, B.notSynchronized, hT, by rw [hP.1]; exact hP.2.1, hK⟩
  have hx := X.1
  have hb := X.2.1
  have hown := X.2.2.2.2.1
  have hR : zz_R D dA base h n s s.heap [] := ⟨hP, va_S.rf⟩
  have hl := lv_entry ([.ref x0, .int x1, .ref x2]) (n := 4) (by exact Nat.le_of_ble_eq_true rfl)
  rw [lg_entry_eq]
  generalize (lg_sl ([.ref x0, .int x1, .ref x2]) ++ List.replicate (4 - (lg_sl ([.ref x0, .int x1, .ref x2])).length) Slot.unset).toArray = ls at hl ⊢
  have hl : lv_has ls 4 [(0, .ref x0), (1, .int x1), (2, .ref x2)] := hl
  unfold f_L_hours at hf
  refine lv_aload_n hx hb dL_hours_0 rfl (lv_at hl 2 rfl) ?_
  refine lv_iconst (v := (0 : Int32)) hx hb dL_hours_1 (by decide) ?_
  refine lv_aload_n hx hb dL_hours_2 rfl (lv_at hl 0 rfl) ?_
  refine lv_iload_n hx hb dL_hours_3 rfl (lv_at hl 1 rfl) ?_
  obtain ⟨fs4, ho4, hf⟩ := zz_obS_i hf
  rcases zz_th_i hf with ⟨v4, hv4, hf⟩ | ⟨k4, hv4, hf⟩
  · refine zl_V X hR hl.1 (As := [.int x1]) (rest := [.int (0 : Int32), .ref x2]) (C := RX9) (T := TX9) (N := 6) (ro := (fun v : Int32 => some (Value.int v)) v4) (mt_X9_hours hT x0 x1 h n hv4) rfl ho4 mf_X9_hours q_1123 q_1124 q_1125 ⟨Nat.le_of_ble_eq_true rfl, Nat.le_of_ble_eq_true rfl⟩ ⟨Nat.le_of_ble_eq_true rfl, Nat.le_of_ble_eq_true rfl⟩ rfl (Nat.le_of_ble_eq_true rfl) dL_hours_4 (fun H locs hR => ?_)
    refine W.eq (g2 := F0 m 7 ls [.int v4, .int (0 : Int32), .ref x2]) rfl ?_
    refine W.widen (k := 2) (n := 12) (Nat.le_of_ble_eq_true rfl) (Nat.le_of_ble_eq_true rfl) ?_
    refine lv_i2l hx hb dL_hours_7 rfl ?_
    refine zr_last X hR (r := (some x2)) dL_hours_8 hf (fun h8 H locs hf hR => ?_)
    refine lv_goto (tgt := 18) hx hb dL_hours_9 (by decide) ?_
    refine lv_iconst (v := (0 : Int32)) hx hb dL_hours_18 (by decide) ?_
    cases hf
    exact zl_iret X hR (Nat.le_refl _) dL_hours_19 (Nat.le_of_ble_eq_true rfl) (Nat.le_of_ble_eq_true rfl)
  · refine zl_X X hR hl.1 (As := [.int x1]) (rest := [.int (0 : Int32), .ref x2]) (C := RX9) (T := TX9) (N := 6) (k := k4) (mt_X9_hours hT x0 x1 h n hv4) rfl ho4 mf_X9_hours q_1123 q_1124 q_1125 ⟨Nat.le_of_ble_eq_true rfl, Nat.le_of_ble_eq_true rfl⟩ ⟨Nat.le_of_ble_eq_true rfl, Nat.le_of_ble_eq_true rfl⟩ rfl (Nat.le_of_ble_eq_true rfl) dL_hours_4 (fun H locs nn ce qq hnn hR hce hcv hcl => ?_)
    by_cases ck : k4 = 2
    · subst ck
      replace hf := zz_pos rfl hf
      refine zl_catch X hN hE (k := 2) [] [(0, 9, 15, 22)] (0, 9, 12, 20) rfl (by decide) (fun z hz => nomatch hz) rfl (by decide) q_576 q_591 hce hcv hcl ?_
      refine lv_astore_n (i := 3) (lv' := [(3, .ref qq)]) hx hb dL_hours_12 rfl (lv_sub hl [] rfl) (by decide) rfl (fun ls hl => ?_)
      refine lv_iconst (v := (1 : Int32)) hx hb dL_hours_13 (by decide) ?_
      cases hf
      exact zl_iret X hR hnn dL_hours_14 (Nat.le_of_ble_eq_true rfl) (Nat.le_of_ble_eq_true rfl)
    replace hf := zz_neg ck hf
    by_cases ck : k4 = 3
    · subst ck
      replace hf := zz_pos rfl hf
      refine zl_catch X hN hE (k := 3) [(0, 9, 12, 20)] [] (0, 9, 15, 22) rfl (by decide) (by intro z hz; simp only [List.mem_cons, List.not_mem_nil, or_false] at hz; rcases hz with rfl <;> first | exact ⟨by decide, 2, by decide, by decide, q_576⟩) rfl (by decide) q_577 q_618 hce hcv hcl ?_
      refine lv_astore_n (i := 3) (lv' := [(3, .ref qq)]) hx hb dL_hours_15 rfl (lv_sub hl [] rfl) (by decide) rfl (fun ls hl => ?_)
      refine lv_iconst (v := (2 : Int32)) hx hb dL_hours_16 (by decide) ?_
      cases hf
      exact zl_iret X hR hnn dL_hours_17 (Nat.le_of_ble_eq_true rfl) (Nat.le_of_ble_eq_true rfl)
    replace hf := zz_neg ck hf
    cases hf
def rm_L_land : Room := { frames := 9, cells := 3, slots := 18, locals := 157 }
theorem mf_L_land : Cond.codeWith yL_land cL_land 6 (some .int) [(0, 12, 15, 20), (0, 12, 19, 13)] ∈ zz_G ∧ Cond.initialized yL_land.cls ∈ zz_G ∧ (yL_land.cls ≠ "java/lang/invoke/MethodHandle" ∧ yL_land.cls ≠ "java/lang/invoke/VarHandle" ∧ (parseMethodDescriptor yL_land.desc).map (fun d => d.parameters.length) = some 5) := ⟨q_1129, q_0, by decide +kernel, by decide +kernel, by decide +kernel⟩
set_option maxHeartbeats 4000000 in
set_option maxRecDepth 100000 in
theorem mt_L_land {D : va_G} {dA : Nat → ClassId} {base t0 : Nat} {l : Launch} (hT : l.stackTraces = false) (x0 : Nat) (x1 : Int32) (x2 : Int32) (x3 : Int32) (x4 : Nat) (h : zz_H) (n : Nat) {r0 : Int32} {hF : zz_H} {nF : Nat} (hf : f_L_land t0 x0 x1 x2 x3 x4 h n = some (r0, hF, nF)) : zz_ML D dA base t0 l yL_land cL_land 6 [(0, 12, 15, 20), (0, 12, 19, 13)] rm_L_land [.ref x0, .int x1, .int x2, .int x3, .ref x4] h n r0 hF nF := by
  refine zz_ofH (cc := cL_land) (maxL := 6) (ret := some .int) (by decide +kernel) rfl ?_
  intro p e s m args below meth c s₁ B hml hE hv
  obtain ⟨rfl, hP, hK, hN⟩ := hv
  have X : zz_X D dA base t0 "SpringseatLaw" cL_land 6 (some .int) l p s m meth c := ⟨B.exec, B.bytes, hml, B.returns, findClass_of_methodNamed B.named, B.notSynchronized, hT, by rw [hP.1]; exact hP.2.1, hK⟩
  have hx := X.1
  have hb := X.2.1
  have hown := X.2.2.2.2.1
  have hR : zz_R D dA base h n s s.heap [] := ⟨hP, va_S.rf⟩
  have hl := lv_entry ([.ref x0, .int x1, .int x2, .int x3, .ref x4]) (n := 6) (by exact Nat.le_of_ble_eq_true rfl)
  rw [lg_entry_eq]
  generalize (lg_sl ([.ref x0, .int x1, .int x2, .int x3, .ref x4]) ++ List.replicate (6 - (lg_sl ([.ref x0, .int x1, .int x2, .int x3, .ref x4])).length) Slot.unset).toArray = ls at hl ⊢
  have hl : lv_has ls 6 [(0, .ref x0), (1, .int x1), (2, .int x2), (3, .int x3), (4, .ref x4)] := hl
  unfold f_L_land at hf
  refine lv_aload hx hb dL_land_0 (lv_at hl 4 rfl) ?_
  refine lv_iconst (v := (0 : Int32)) hx hb dL_land_2 (by decide) ?_
  refine lv_aload_n hx hb dL_land_3 rfl (lv_at hl 0 rfl) ?_
  refine lv_iload_n hx hb dL_land_4 rfl (lv_at hl 1 rfl) ?_
  refine lv_iload_n hx hb dL_land_5 rfl (lv_at hl 2 rfl) ?_
  refine lv_iload_n hx hb dL_land_6 rfl (lv_at hl 3 rfl) ?_
  obtain ⟨fs7, ho7, hf⟩ := zz_obS_i hf
  rcases zz_th1_i hf with ⟨v7, h7, hv7, hf⟩ | ⟨k7, h7, hv7, hf⟩
  · refine zl_V X hR hl.1 (As := [.int x1, .int x2, .int x3]) (rest := [.int (0 : Int32), .ref x4]) (C := RX9) (T := TX9) (N := 6) (ro := (fun v : Int32 => some (Value.int v)) v7) (mt_X9_land hT x0 x1 x2 x3 h n hv7) rfl ho7 mf_X9_land q_1130 q_1131 q_1132 ⟨Nat.le_of_ble_eq_true rfl, Nat.le_of_ble_eq_true rfl⟩ ⟨Nat.le_of_ble_eq_true rfl, Nat.le_of_ble_eq_true rfl⟩ rfl (Nat.le_of_ble_eq_true rfl) dL_land_7 (fun H locs hR => ?_)
    refine W.eq (g2 := F0 m 10 ls [.int v7, .int (0 : Int32), .ref x4]) rfl ?_
    refine W.widen (k := 3) (n := 18) (Nat.le_of_ble_eq_true rfl) (Nat.le_of_ble_eq_true rfl) ?_
    refine lv_i2l hx hb dL_land_10 rfl ?_
    refine zr_last X hR (r := (some x4)) dL_land_11 hf (fun h11 H locs hf hR => ?_)
    refine lv_goto (tgt := 23) hx hb dL_land_12 (by decide) ?_
    refine lv_iconst (v := (0 : Int32)) hx hb dL_land_23 (by decide) ?_
    cases hf
    exact zl_iret X hR (Nat.le_refl _) dL_land_24 (Nat.le_of_ble_eq_true rfl) (Nat.le_of_ble_eq_true rfl)
  · refine zl_X X hR hl.1 (As := [.int x1, .int x2, .int x3]) (rest := [.int (0 : Int32), .ref x4]) (C := RX9) (T := TX9) (N := 6) (k := k7) (mt_X9_land hT x0 x1 x2 x3 h n hv7) rfl ho7 mf_X9_land q_1130 q_1131 q_1132 ⟨Nat.le_of_ble_eq_true rfl, Nat.le_of_ble_eq_true rfl⟩ ⟨Nat.le_of_ble_eq_true rfl, Nat.le_of_ble_eq_true rfl⟩ rfl (Nat.le_of_ble_eq_true rfl) dL_land_7 (fun H locs nn ce qq hnn hR hce hcv hcl => ?_)
    by_cases ck : k7 = 2
    · subst ck
      replace hf := zz_pos rfl hf
      refine zl_catch X hN hE (k := 2) [] [(0, 12, 19, 13)] (0, 12, 15, 20) rfl (by decide) (fun z hz => nomatch hz) rfl (by decide) q_576 q_591 hce hcv hcl ?_
      refine lv_astore (i := 5) (lv' := [(5, .ref qq)]) hx hb dL_land_15 (lv_sub hl [] rfl) (by decide) rfl (fun ls hl => ?_)
      refine lv_iconst (v := (1 : Int32)) hx hb dL_land_17 (by decide) ?_
      cases hf
      exact zl_iret X hR hnn dL_land_18 (Nat.le_of_ble_eq_true rfl) (Nat.le_of_ble_eq_true rfl)
    replace hf := zz_neg ck hf
    by_cases ck : k7 = 0
    · subst ck
      replace hf := zz_pos rfl hf
      refine zl_catch X hN hE (k := 0) [(0, 12, 15, 20)] [] (0, 12, 19, 13) rfl (by decide) (by intro z hz; simp only [List.mem_cons, List.not_mem_nil, or_false] at hz; rcases hz with rfl <;> first | exact ⟨by decide, 2, by decide, by decide, q_576⟩) rfl (by decide) q_338 q_349 hce hcv hcl ?_
      refine lv_astore (i := 5) (lv' := [(5, .ref qq)]) hx hb dL_land_19 (lv_sub hl [] rfl) (by decide) rfl (fun ls hl => ?_)
      refine lv_iconst (v := (2 : Int32)) hx hb dL_land_21 (by decide) ?_
      cases hf
      exact zl_iret X hR hnn dL_land_22 (Nat.le_of_ble_eq_true rfl) (Nat.le_of_ble_eq_true rfl)
    replace hf := zz_neg ck hf
    cases hf
def rm_L_burns : Room := { frames := 9, cells := 2, slots := 12, locals := 156 }
theorem mf_L_burns : Cond.codeWith yL_burns cL_burns 5 (some .int) [(0, 17, 20, 20)] ∈ zz_G ∧ Cond.initialized yL_burns.cls ∈ zz_G ∧ (yL_burns.cls ≠ "java/lang/invoke/MethodHandle" ∧ yL_burns.cls ≠ "java/lang/invoke/VarHandle" ∧ (parseMethodDescriptor yL_burns.desc).map (fun d => d.parameters.length) = some 4) := ⟨q_1140, q_0, by decide +kernel, by decide +kernel, by decide +kernel⟩
set_option maxHeartbeats 4000000 in
set_option maxRecDepth 100000 in
theorem bk_L_burns_16 {D : va_G} {dA : Nat → ClassId} {base t0 : Nat} {l : Launch} {p : Program} {e : Env} {s : State} {m : MethodId} {args : Array Value} {below : List Frame} {meth : Method} {c : Code} (X : zz_X D dA base t0 "SpringseatLaw" cL_burns 5 (some .int) l p s m meth c) (hT : l.stackTraces = false) {s0 : Int64} {s1 : Int32} {s2 : (Option Nat)} {h : zz_H} {n : Nat} {H : Heap} {locs : List Loc} {ls : Array Slot} (hR : zz_R D dA base h n s H locs) (hl : lv_has ls 5 []) {r0 : Int32} {hF : zz_H} {nF : Nat} (hf : f_L_burns_16 t0 s0 s1 s2 h n = some (r0, hF, nF)) : W p l e rm_L_burns s m args below meth c H locs 2 12 (MQ below (zz_QL D dA base r0 hF nF) args s rm_L_burns.cells rm_L_burns.slots (fun q => base ≤ q)) (F0 m 16 ls [.long s0, .int s1, va_rf s2]) := by
  have hx := X.1
  have hb := X.2.1
  have hown := X.2.2.2.2.1
  unfold f_L_burns_16 at hf
  refine zr_last X hR (r := s2) dL_burns_16 hf (fun h16 H locs hf hR => ?_)
  refine lv_goto (tgt := 24) hx hb dL_burns_17 (by decide) ?_
  refine lv_iconst (v := (0 : Int32)) hx hb dL_burns_24 (by decide) ?_
  cases hf
  exact zl_iret X hR (Nat.le_refl _) dL_burns_25 (Nat.le_of_ble_eq_true rfl) (Nat.le_of_ble_eq_true rfl)
set_option maxHeartbeats 4000000 in
set_option maxRecDepth 100000 in
theorem mt_L_burns {D : va_G} {dA : Nat → ClassId} {base t0 : Nat} {l : Launch} (hT : l.stackTraces = false) (x0 : Nat) (x1 : Int32) (x2 : Int32) (x3 : Nat) (h : zz_H) (n : Nat) {r0 : Int32} {hF : zz_H} {nF : Nat} (hf : f_L_burns t0 x0 x1 x2 x3 h n = some (r0, hF, nF)) : zz_ML D dA base t0 l yL_burns cL_burns 5 [(0, 17, 20, 20)] rm_L_burns [.ref x0, .int x1, .int x2, .ref x3] h n r0 hF nF := by
  refine zz_ofH (cc := cL_burns) (maxL := 5) (ret := some .int) (by decide +kernel) rfl ?_
  intro p e s m args below meth c s₁ B hml hE hv
  obtain ⟨rfl, hP, hK, hN⟩ := hv
  have X : zz_X D dA base t0 "SpringseatLaw" cL_burns 5 (some .int) l p s m meth c := ⟨B.exec, B.bytes, hml, B.returns, findClass_of_methodNamed B.named, B.notSynchronized, hT, by rw [hP.1]; exact hP.2.1, hK⟩
  have hx := X.1
  have hb := X.2.1
  have hown := X.2.2.2.2.1
  have hR : zz_R D dA base h n s s.heap [] := ⟨hP, va_S.rf⟩
  have hl := lv_entry ([.ref x0, .int x1, .int x2, .ref x3]) (n := 5) (by exact Nat.le_of_ble_eq_true rfl)
  rw [lg_entry_eq]
  generalize (lg_sl ([.ref x0, .int x1, .int x2, .ref x3]) ++ List.replicate (5 - (lg_sl ([.ref x0, .int x1, .int x2, .ref x3])).length) Slot.unset).toArray = ls at hl ⊢
  have hl : lv_has ls 5 [(0, .ref x0), (1, .int x1), (2, .int x2), (3, .ref x3)] := hl
  unfold f_L_burns at hf
  refine lv_aload_n hx hb dL_burns_0 rfl (lv_at hl 3 rfl) ?_
  refine lv_iconst (v := (0 : Int32)) hx hb dL_burns_1 (by decide) ?_
  refine lv_aload_n hx hb dL_burns_2 rfl (lv_at hl 0 rfl) ?_
  refine lv_iload_n hx hb dL_burns_3 rfl (lv_at hl 1 rfl) ?_
  refine lv_iload_n hx hb dL_burns_4 rfl (lv_at hl 2 rfl) ?_
  obtain ⟨fs5, ho5, hf⟩ := zz_obS_i hf
  rcases zz_th_i hf with ⟨v5, hv5, hf⟩ | ⟨k5, hv5, hf⟩
  · refine zl_V X hR hl.1 (As := [.int x1, .int x2]) (rest := [.int (0 : Int32), .ref x3]) (C := RX9) (T := TX9) (N := 6) (ro := (fun v : Int32 => some (Value.int v)) v5) (mt_X9_burns hT x0 x1 x2 h n hv5) rfl ho5 mf_X9_burns q_1141 q_1142 q_1143 ⟨Nat.le_of_ble_eq_true rfl, Nat.le_of_ble_eq_true rfl⟩ ⟨Nat.le_of_ble_eq_true rfl, Nat.le_of_ble_eq_true rfl⟩ rfl (Nat.le_of_ble_eq_true rfl) dL_burns_5 (fun H locs hR => ?_)
    refine W.eq (g2 := F0 m 8 ls [.int v5, .int (0 : Int32), .ref x3]) rfl ?_
    refine W.widen (k := 2) (n := 12) (Nat.le_of_ble_eq_true rfl) (Nat.le_of_ble_eq_true rfl) ?_
    refine lv_if_eq (tgt := 15) hx hb dL_burns_8 (by decide) (fun c8 => ?_) (fun c8 => ?_)
    · replace hf := zz_pos c8 hf
      refine lv_lconst (v := (0 : Int64)) hx hb dL_burns_15 (by decide) ?_
      exact bk_L_burns_16 X hT hR (lv_sub hl [] rfl) hf
    · replace hf := zz_neg c8 hf
      refine lv_lconst (v := (1 : Int64)) hx hb dL_burns_11 (by decide) ?_
      refine lv_goto (tgt := 16) hx hb dL_burns_12 (by decide) ?_
      exact bk_L_burns_16 X hT hR (lv_sub hl [] rfl) hf
  · refine zl_X X hR hl.1 (As := [.int x1, .int x2]) (rest := [.int (0 : Int32), .ref x3]) (C := RX9) (T := TX9) (N := 6) (k := k5) (mt_X9_burns hT x0 x1 x2 h n hv5) rfl ho5 mf_X9_burns q_1141 q_1142 q_1143 ⟨Nat.le_of_ble_eq_true rfl, Nat.le_of_ble_eq_true rfl⟩ ⟨Nat.le_of_ble_eq_true rfl, Nat.le_of_ble_eq_true rfl⟩ rfl (Nat.le_of_ble_eq_true rfl) dL_burns_5 (fun H locs nn ce qq hnn hR hce hcv hcl => ?_)
    by_cases ck : k5 = 2
    · subst ck
      replace hf := zz_pos rfl hf
      refine zl_catch X hN hE (k := 2) [] [] (0, 17, 20, 20) rfl (by decide) (fun z hz => nomatch hz) rfl (by decide) q_576 q_591 hce hcv hcl ?_
      refine lv_astore (i := 4) (lv' := [(4, .ref qq)]) hx hb dL_burns_20 (lv_sub hl [] rfl) (by decide) rfl (fun ls hl => ?_)
      refine lv_iconst (v := (1 : Int32)) hx hb dL_burns_22 (by decide) ?_
      cases hf
      exact zl_iret X hR hnn dL_burns_23 (Nat.le_of_ble_eq_true rfl) (Nat.le_of_ble_eq_true rfl)
    replace hf := zz_neg ck hf
    cases hf
def rm_L_tack : Room := { frames := 9, cells := 3, slots := 18, locals := 157 }
theorem mf_L_tack : Cond.codeWith yL_tack cL_tack 6 (some .int) [(0, 12, 15, 20), (0, 12, 19, 53), (0, 12, 23, 13)] ∈ zz_G ∧ Cond.initialized yL_tack.cls ∈ zz_G ∧ (yL_tack.cls ≠ "java/lang/invoke/MethodHandle" ∧ yL_tack.cls ≠ "java/lang/invoke/VarHandle" ∧ (parseMethodDescriptor yL_tack.desc).map (fun d => d.parameters.length) = some 5) := ⟨q_1155, q_0, by decide +kernel, by decide +kernel, by decide +kernel⟩
set_option maxHeartbeats 4000000 in
set_option maxRecDepth 100000 in
theorem mt_L_tack {D : va_G} {dA : Nat → ClassId} {base t0 : Nat} {l : Launch} (hT : l.stackTraces = false) (x0 : Nat) (x1 : Int32) (x2 : Int32) (x3 : Int32) (x4 : Nat) (h : zz_H) (n : Nat) {r0 : Int32} {hF : zz_H} {nF : Nat} (hf : f_L_tack t0 x0 x1 x2 x3 x4 h n = some (r0, hF, nF)) : zz_ML D dA base t0 l yL_tack cL_tack 6 [(0, 12, 15, 20), (0, 12, 19, 53), (0, 12, 23, 13)] rm_L_tack [.ref x0, .int x1, .int x2, .int x3, .ref x4] h n r0 hF nF := by
  refine zz_ofH (cc := cL_tack) (maxL := 6) (ret := some .int) (by decide +kernel) rfl ?_
  intro p e s m args below meth c s₁ B hml hE hv
  obtain ⟨rfl, hP, hK, hN⟩ := hv
  have X : zz_X D dA base t0 "SpringseatLaw" cL_tack 6 (some .int) l p s m meth c := ⟨B.exec, B.bytes, hml, B.returns, findClass_of_methodNamed B.named, B.notSynchronized, hT, by rw [hP.1]; exact hP.2.1, hK⟩
  have hx := X.1
  have hb := X.2.1
  have hown := X.2.2.2.2.1
  have hR : zz_R D dA base h n s s.heap [] := ⟨hP, va_S.rf⟩
  have hl := lv_entry ([.ref x0, .int x1, .int x2, .int x3, .ref x4]) (n := 6) (by exact Nat.le_of_ble_eq_true rfl)
  rw [lg_entry_eq]
  generalize (lg_sl ([.ref x0, .int x1, .int x2, .int x3, .ref x4]) ++ List.replicate (6 - (lg_sl ([.ref x0, .int x1, .int x2, .int x3, .ref x4])).length) Slot.unset).toArray = ls at hl ⊢
  have hl : lv_has ls 6 [(0, .ref x0), (1, .int x1), (2, .int x2), (3, .int x3), (4, .ref x4)] := hl
  unfold f_L_tack at hf
  refine lv_aload hx hb dL_tack_0 (lv_at hl 4 rfl) ?_
  refine lv_iconst (v := (0 : Int32)) hx hb dL_tack_2 (by decide) ?_
  refine lv_aload_n hx hb dL_tack_3 rfl (lv_at hl 0 rfl) ?_
  refine lv_iload_n hx hb dL_tack_4 rfl (lv_at hl 1 rfl) ?_
  refine lv_iload_n hx hb dL_tack_5 rfl (lv_at hl 2 rfl) ?_
  refine lv_iload_n hx hb dL_tack_6 rfl (lv_at hl 3 rfl) ?_
  obtain ⟨fs7, ho7, hf⟩ := zz_obS_i hf
  rcases zz_th1_i hf with ⟨v7, h7, hv7, hf⟩ | ⟨k7, h7, hv7, hf⟩
  · refine zl_V X hR hl.1 (As := [.int x1, .int x2, .int x3]) (rest := [.int (0 : Int32), .ref x4]) (C := RX9) (T := TX9) (N := 6) (ro := (fun v : Int32 => some (Value.int v)) v7) (mt_X9_tack hT x0 x1 x2 x3 h n hv7) rfl ho7 mf_X9_tack q_1156 q_1157 q_1158 ⟨Nat.le_of_ble_eq_true rfl, Nat.le_of_ble_eq_true rfl⟩ ⟨Nat.le_of_ble_eq_true rfl, Nat.le_of_ble_eq_true rfl⟩ rfl (Nat.le_of_ble_eq_true rfl) dL_tack_7 (fun H locs hR => ?_)
    refine W.eq (g2 := F0 m 10 ls [.int v7, .int (0 : Int32), .ref x4]) rfl ?_
    refine W.widen (k := 3) (n := 18) (Nat.le_of_ble_eq_true rfl) (Nat.le_of_ble_eq_true rfl) ?_
    refine lv_i2l hx hb dL_tack_10 rfl ?_
    refine zr_last X hR (r := (some x4)) dL_tack_11 hf (fun h11 H locs hf hR => ?_)
    refine lv_goto (tgt := 27) hx hb dL_tack_12 (by decide) ?_
    refine lv_iconst (v := (0 : Int32)) hx hb dL_tack_27 (by decide) ?_
    cases hf
    exact zl_iret X hR (Nat.le_refl _) dL_tack_28 (Nat.le_of_ble_eq_true rfl) (Nat.le_of_ble_eq_true rfl)
  · refine zl_X X hR hl.1 (As := [.int x1, .int x2, .int x3]) (rest := [.int (0 : Int32), .ref x4]) (C := RX9) (T := TX9) (N := 6) (k := k7) (mt_X9_tack hT x0 x1 x2 x3 h n hv7) rfl ho7 mf_X9_tack q_1156 q_1157 q_1158 ⟨Nat.le_of_ble_eq_true rfl, Nat.le_of_ble_eq_true rfl⟩ ⟨Nat.le_of_ble_eq_true rfl, Nat.le_of_ble_eq_true rfl⟩ rfl (Nat.le_of_ble_eq_true rfl) dL_tack_7 (fun H locs nn ce qq hnn hR hce hcv hcl => ?_)
    by_cases ck : k7 = 2
    · subst ck
      replace hf := zz_pos rfl hf
      refine zl_catch X hN hE (k := 2) [] [(0, 12, 19, 53), (0, 12, 23, 13)] (0, 12, 15, 20) rfl (by decide) (fun z hz => nomatch hz) rfl (by decide) q_576 q_591 hce hcv hcl ?_
      refine lv_astore (i := 5) (lv' := [(5, .ref qq)]) hx hb dL_tack_15 (lv_sub hl [] rfl) (by decide) rfl (fun ls hl => ?_)
      refine lv_iconst (v := (1 : Int32)) hx hb dL_tack_17 (by decide) ?_
      cases hf
      exact zl_iret X hR hnn dL_tack_18 (Nat.le_of_ble_eq_true rfl) (Nat.le_of_ble_eq_true rfl)
    replace hf := zz_neg ck hf
    by_cases ck : k7 = 4
    · subst ck
      replace hf := zz_pos rfl hf
      refine zl_catch X hN hE (k := 4) [(0, 12, 15, 20)] [(0, 12, 23, 13)] (0, 12, 19, 53) rfl (by decide) (by intro z hz; simp only [List.mem_cons, List.not_mem_nil, or_false] at hz; rcases hz with rfl <;> first | exact ⟨by decide, 2, by decide, by decide, q_576⟩) rfl (by decide) q_768 q_802 hce hcv hcl ?_
      refine lv_astore (i := 5) (lv' := [(5, .ref qq)]) hx hb dL_tack_19 (lv_sub hl [] rfl) (by decide) rfl (fun ls hl => ?_)
      refine lv_iconst (v := (2 : Int32)) hx hb dL_tack_21 (by decide) ?_
      cases hf
      exact zl_iret X hR hnn dL_tack_22 (Nat.le_of_ble_eq_true rfl) (Nat.le_of_ble_eq_true rfl)
    replace hf := zz_neg ck hf
    by_cases ck : k7 = 0
    · subst ck
      replace hf := zz_pos rfl hf
      refine zl_catch X hN hE (k := 0) [(0, 12, 15, 20), (0, 12, 19, 53)] [] (0, 12, 23, 13) rfl (by decide) (by intro z hz; simp only [List.mem_cons, List.not_mem_nil, or_false] at hz; rcases hz with rfl | rfl <;> first | exact ⟨by decide, 2, by decide, by decide, q_576⟩ | exact ⟨by decide, 4, by decide, by decide, q_768⟩) rfl (by decide) q_338 q_349 hce hcv hcl ?_
      refine lv_astore (i := 5) (lv' := [(5, .ref qq)]) hx hb dL_tack_23 (lv_sub hl [] rfl) (by decide) rfl (fun ls hl => ?_)
      refine lv_iconst (v := (3 : Int32)) hx hb dL_tack_25 (by decide) ?_
      cases hf
      exact zl_iret X hR hnn dL_tack_26 (Nat.le_of_ble_eq_true rfl) (Nat.le_of_ble_eq_true rfl)
    replace hf := zz_neg ck hf
    cases hf
def rm_L_quarrels : Room := { frames := 9, cells := 1, slots := 6, locals := 153 }
theorem mf_L_quarrels : Cond.codeWith yL_quarrels cL_quarrels 4 (some .int) [(0, 9, 12, 20)] ∈ zz_G ∧ Cond.initialized yL_quarrels.cls ∈ zz_G ∧ (yL_quarrels.cls ≠ "java/lang/invoke/MethodHandle" ∧ yL_quarrels.cls ≠ "java/lang/invoke/VarHandle" ∧ (parseMethodDescriptor yL_quarrels.desc).map (fun d => d.parameters.length) = some 3) := ⟨q_1162, q_0, by decide +kernel, by decide +kernel, by decide +kernel⟩
set_option maxHeartbeats 4000000 in
set_option maxRecDepth 100000 in
theorem mt_L_quarrels {D : va_G} {dA : Nat → ClassId} {base t0 : Nat} {l : Launch} (hT : l.stackTraces = false) (x0 : Nat) (x1 : Int32) (x2 : Nat) (h : zz_H) (n : Nat) {r0 : Int32} {hF : zz_H} {nF : Nat} (hf : f_L_quarrels t0 x0 x1 x2 h n = some (r0, hF, nF)) : zz_ML D dA base t0 l yL_quarrels cL_quarrels 4 [(0, 9, 12, 20)] rm_L_quarrels [.ref x0, .int x1, .ref x2] h n r0 hF nF := by
  refine zz_ofH (cc := cL_quarrels) (maxL := 4) (ret := some .int) (by decide +kernel) rfl ?_
  intro p e s m args below meth c s₁ B hml hE hv
  obtain ⟨rfl, hP, hK, hN⟩ := hv
  have X : zz_X D dA base t0 "SpringseatLaw" cL_quarrels 4 (some .int) l p s m meth c := ⟨B.exec, B.bytes, hml, B.returns, findClass_of_methodNamed B.named, B.notSynchronized, hT, by rw [hP.1]; exact hP.2.1, hK⟩
  have hx := X.1
  have hb := X.2.1
  have hown := X.2.2.2.2.1
  have hR : zz_R D dA base h n s s.heap [] := ⟨hP, va_S.rf⟩
  have hl := lv_entry ([.ref x0, .int x1, .ref x2]) (n := 4) (by exact Nat.le_of_ble_eq_true rfl)
  rw [lg_entry_eq]
  generalize (lg_sl ([.ref x0, .int x1, .ref x2]) ++ List.replicate (4 - (lg_sl ([.ref x0, .int x1, .ref x2])).length) Slot.unset).toArray = ls at hl ⊢
  have hl : lv_has ls 4 [(0, .ref x0), (1, .int x1), (2, .ref x2)] := hl
  unfold f_L_quarrels at hf
  refine lv_aload_n hx hb dL_quarrels_0 rfl (lv_at hl 2 rfl) ?_
  refine lv_iconst (v := (0 : Int32)) hx hb dL_quarrels_1 (by decide) ?_
  refine lv_aload_n hx hb dL_quarrels_2 rfl (lv_at hl 0 rfl) ?_
  refine lv_iload_n hx hb dL_quarrels_3 rfl (lv_at hl 1 rfl) ?_
  obtain ⟨fs4, ho4, hf⟩ := zz_obS_i hf
  rcases zz_th_i hf with ⟨v4, hv4, hf⟩ | ⟨k4, hv4, hf⟩
  · refine zl_V X hR hl.1 (As := [.int x1]) (rest := [.int (0 : Int32), .ref x2]) (C := RX9) (T := TX9) (N := 6) (ro := (fun v : Int32 => some (Value.int v)) v4) (mt_X9_quarrels hT x0 x1 h n hv4) rfl ho4 mf_X9_quarrels q_1163 q_1164 q_1165 ⟨Nat.le_of_ble_eq_true rfl, Nat.le_of_ble_eq_true rfl⟩ ⟨Nat.le_of_ble_eq_true rfl, Nat.le_of_ble_eq_true rfl⟩ rfl (Nat.le_of_ble_eq_true rfl) dL_quarrels_4 (fun H locs hR => ?_)
    refine W.eq (g2 := F0 m 7 ls [.int v4, .int (0 : Int32), .ref x2]) rfl ?_
    refine W.widen (k := 1) (n := 6) (Nat.le_of_ble_eq_true rfl) (Nat.le_of_ble_eq_true rfl) ?_
    refine lv_i2l hx hb dL_quarrels_7 rfl ?_
    refine zr_last X hR (r := (some x2)) dL_quarrels_8 hf (fun h8 H locs hf hR => ?_)
    refine lv_goto (tgt := 15) hx hb dL_quarrels_9 (by decide) ?_
    refine lv_iconst (v := (0 : Int32)) hx hb dL_quarrels_15 (by decide) ?_
    cases hf
    exact zl_iret X hR (Nat.le_refl _) dL_quarrels_16 (Nat.le_of_ble_eq_true rfl) (Nat.le_of_ble_eq_true rfl)
  · refine zl_X X hR hl.1 (As := [.int x1]) (rest := [.int (0 : Int32), .ref x2]) (C := RX9) (T := TX9) (N := 6) (k := k4) (mt_X9_quarrels hT x0 x1 h n hv4) rfl ho4 mf_X9_quarrels q_1163 q_1164 q_1165 ⟨Nat.le_of_ble_eq_true rfl, Nat.le_of_ble_eq_true rfl⟩ ⟨Nat.le_of_ble_eq_true rfl, Nat.le_of_ble_eq_true rfl⟩ rfl (Nat.le_of_ble_eq_true rfl) dL_quarrels_4 (fun H locs nn ce qq hnn hR hce hcv hcl => ?_)
    by_cases ck : k4 = 2
    · subst ck
      replace hf := zz_pos rfl hf
      refine zl_catch X hN hE (k := 2) [] [] (0, 9, 12, 20) rfl (by decide) (fun z hz => nomatch hz) rfl (by decide) q_576 q_591 hce hcv hcl ?_
      refine lv_astore_n (i := 3) (lv' := [(3, .ref qq)]) hx hb dL_quarrels_12 rfl (lv_sub hl [] rfl) (by decide) rfl (fun ls hl => ?_)
      refine lv_iconst (v := (1 : Int32)) hx hb dL_quarrels_13 (by decide) ?_
      cases hf
      exact zl_iret X hR hnn dL_quarrels_14 (Nat.le_of_ble_eq_true rfl) (Nat.le_of_ble_eq_true rfl)
    replace hf := zz_neg ck hf
    cases hf
def rm_L_promise : Room := { frames := 9, cells := 2, slots := 12, locals := 156 }
theorem mf_L_promise : Cond.codeWith yL_promise cL_promise 5 (some .int) [(0, 10, 13, 20), (0, 10, 17, 13)] ∈ zz_G ∧ Cond.initialized yL_promise.cls ∈ zz_G ∧ (yL_promise.cls ≠ "java/lang/invoke/MethodHandle" ∧ yL_promise.cls ≠ "java/lang/invoke/VarHandle" ∧ (parseMethodDescriptor yL_promise.desc).map (fun d => d.parameters.length) = some 4) := ⟨q_1177, q_0, by decide +kernel, by decide +kernel, by decide +kernel⟩
set_option maxHeartbeats 4000000 in
set_option maxRecDepth 100000 in
theorem mt_L_promise {D : va_G} {dA : Nat → ClassId} {base t0 : Nat} {l : Launch} (hT : l.stackTraces = false) (x0 : Nat) (x1 : Int32) (x2 : Int32) (x3 : Nat) (h : zz_H) (n : Nat) {r0 : Int32} {hF : zz_H} {nF : Nat} (hf : f_L_promise t0 x0 x1 x2 x3 h n = some (r0, hF, nF)) : zz_ML D dA base t0 l yL_promise cL_promise 5 [(0, 10, 13, 20), (0, 10, 17, 13)] rm_L_promise [.ref x0, .int x1, .int x2, .ref x3] h n r0 hF nF := by
  refine zz_ofH (cc := cL_promise) (maxL := 5) (ret := some .int) (by decide +kernel) rfl ?_
  intro p e s m args below meth c s₁ B hml hE hv
  obtain ⟨rfl, hP, hK, hN⟩ := hv
  have X : zz_X D dA base t0 "SpringseatLaw" cL_promise 5 (some .int) l p s m meth c := ⟨B.exec, B.bytes, hml, B.returns, findClass_of_methodNamed B.named, B.notSynchronized, hT, by rw [hP.1]; exact hP.2.1, hK⟩
  have hx := X.1
  have hb := X.2.1
  have hown := X.2.2.2.2.1
  have hR : zz_R D dA base h n s s.heap [] := ⟨hP, va_S.rf⟩
  have hl := lv_entry ([.ref x0, .int x1, .int x2, .ref x3]) (n := 5) (by exact Nat.le_of_ble_eq_true rfl)
  rw [lg_entry_eq]
  generalize (lg_sl ([.ref x0, .int x1, .int x2, .ref x3]) ++ List.replicate (5 - (lg_sl ([.ref x0, .int x1, .int x2, .ref x3])).length) Slot.unset).toArray = ls at hl ⊢
  have hl : lv_has ls 5 [(0, .ref x0), (1, .int x1), (2, .int x2), (3, .ref x3)] := hl
  unfold f_L_promise at hf
  refine lv_aload_n hx hb dL_promise_0 rfl (lv_at hl 3 rfl) ?_
  refine lv_iconst (v := (0 : Int32)) hx hb dL_promise_1 (by decide) ?_
  refine lv_aload_n hx hb dL_promise_2 rfl (lv_at hl 0 rfl) ?_
  refine lv_iload_n hx hb dL_promise_3 rfl (lv_at hl 1 rfl) ?_
  refine lv_iload_n hx hb dL_promise_4 rfl (lv_at hl 2 rfl) ?_
  obtain ⟨fs5, ho5, hf⟩ := zz_obS_i hf
  rcases zz_th1_i hf with ⟨v5, h5, hv5, hf⟩ | ⟨k5, h5, hv5, hf⟩
  · refine zl_V X hR hl.1 (As := [.int x1, .int x2]) (rest := [.int (0 : Int32), .ref x3]) (C := RX9) (T := TX9) (N := 6) (ro := (fun v : Int32 => some (Value.int v)) v5) (mt_X9_promise hT x0 x1 x2 h n hv5) rfl ho5 mf_X9_promise q_1178 q_1179 q_1180 ⟨Nat.le_of_ble_eq_true rfl, Nat.le_of_ble_eq_true rfl⟩ ⟨Nat.le_of_ble_eq_true rfl, Nat.le_of_ble_eq_true rfl⟩ rfl (Nat.le_of_ble_eq_true rfl) dL_promise_5 (fun H locs hR => ?_)
    refine W.eq (g2 := F0 m 8 ls [.int v5, .int (0 : Int32), .ref x3]) rfl ?_
    refine W.widen (k := 2) (n := 12) (Nat.le_of_ble_eq_true rfl) (Nat.le_of_ble_eq_true rfl) ?_
    refine lv_i2l hx hb dL_promise_8 rfl ?_
    refine zr_last X hR (r := (some x3)) dL_promise_9 hf (fun h9 H locs hf hR => ?_)
    refine lv_goto (tgt := 21) hx hb dL_promise_10 (by decide) ?_
    refine lv_iconst (v := (0 : Int32)) hx hb dL_promise_21 (by decide) ?_
    cases hf
    exact zl_iret X hR (Nat.le_refl _) dL_promise_22 (Nat.le_of_ble_eq_true rfl) (Nat.le_of_ble_eq_true rfl)
  · refine zl_X X hR hl.1 (As := [.int x1, .int x2]) (rest := [.int (0 : Int32), .ref x3]) (C := RX9) (T := TX9) (N := 6) (k := k5) (mt_X9_promise hT x0 x1 x2 h n hv5) rfl ho5 mf_X9_promise q_1178 q_1179 q_1180 ⟨Nat.le_of_ble_eq_true rfl, Nat.le_of_ble_eq_true rfl⟩ ⟨Nat.le_of_ble_eq_true rfl, Nat.le_of_ble_eq_true rfl⟩ rfl (Nat.le_of_ble_eq_true rfl) dL_promise_5 (fun H locs nn ce qq hnn hR hce hcv hcl => ?_)
    by_cases ck : k5 = 2
    · subst ck
      replace hf := zz_pos rfl hf
      refine zl_catch X hN hE (k := 2) [] [(0, 10, 17, 13)] (0, 10, 13, 20) rfl (by decide) (fun z hz => nomatch hz) rfl (by decide) q_576 q_591 hce hcv hcl ?_
      refine lv_astore (i := 4) (lv' := [(4, .ref qq)]) hx hb dL_promise_13 (lv_sub hl [] rfl) (by decide) rfl (fun ls hl => ?_)
      refine lv_iconst (v := (1 : Int32)) hx hb dL_promise_15 (by decide) ?_
      cases hf
      exact zl_iret X hR hnn dL_promise_16 (Nat.le_of_ble_eq_true rfl) (Nat.le_of_ble_eq_true rfl)
    replace hf := zz_neg ck hf
    by_cases ck : k5 = 0
    · subst ck
      replace hf := zz_pos rfl hf
      refine zl_catch X hN hE (k := 0) [(0, 10, 13, 20)] [] (0, 10, 17, 13) rfl (by decide) (by intro z hz; simp only [List.mem_cons, List.not_mem_nil, or_false] at hz; rcases hz with rfl <;> first | exact ⟨by decide, 2, by decide, by decide, q_576⟩) rfl (by decide) q_338 q_349 hce hcv hcl ?_
      refine lv_astore (i := 4) (lv' := [(4, .ref qq)]) hx hb dL_promise_17 (lv_sub hl [] rfl) (by decide) rfl (fun ls hl => ?_)
      refine lv_iconst (v := (2 : Int32)) hx hb dL_promise_19 (by decide) ?_
      cases hf
      exact zl_iret X hR hnn dL_promise_20 (Nat.le_of_ble_eq_true rfl) (Nat.le_of_ble_eq_true rfl)
    replace hf := zz_neg ck hf
    cases hf
def rm_L_holds : Room := { frames := 9, cells := 2, slots := 12, locals := 155 }
theorem mf_L_holds : Cond.codeWith yL_holds cL_holds 4 (some .int) [(0, 16, 19, 20), (0, 16, 22, 22)] ∈ zz_G ∧ Cond.initialized yL_holds.cls ∈ zz_G ∧ (yL_holds.cls ≠ "java/lang/invoke/MethodHandle" ∧ yL_holds.cls ≠ "java/lang/invoke/VarHandle" ∧ (parseMethodDescriptor yL_holds.desc).map (fun d => d.parameters.length) = some 3) := ⟨q_1184, q_0, by decide +kernel, by decide +kernel, by decide +kernel⟩
set_option maxHeartbeats 4000000 in
set_option maxRecDepth 100000 in
theorem bk_L_holds_15 {D : va_G} {dA : Nat → ClassId} {base t0 : Nat} {l : Launch} {p : Program} {e : Env} {s : State} {m : MethodId} {args : Array Value} {below : List Frame} {meth : Method} {c : Code} (X : zz_X D dA base t0 "SpringseatLaw" cL_holds 4 (some .int) l p s m meth c) (hT : l.stackTraces = false) {s0 : Int64} {s1 : Int32} {s2 : (Option Nat)} {h : zz_H} {n : Nat} {H : Heap} {locs : List Loc} {ls : Array Slot} (hR : zz_R D dA base h n s H locs) (hl : lv_has ls 4 []) {r0 : Int32} {hF : zz_H} {nF : Nat} (hf : f_L_holds_15 t0 s0 s1 s2 h n = some (r0, hF, nF)) : W p l e rm_L_holds s m args below meth c H locs 2 12 (MQ below (zz_QL D dA base r0 hF nF) args s rm_L_holds.cells rm_L_holds.slots (fun q => base ≤ q)) (F0 m 15 ls [.long s0, .int s1, va_rf s2]) := by
  have hx := X.1
  have hb := X.2.1
  have hown := X.2.2.2.2.1
  unfold f_L_holds_15 at hf
  refine zr_last X hR (r := s2) dL_holds_15 hf (fun h15 H locs hf hR => ?_)
  refine lv_goto (tgt := 25) hx hb dL_holds_16 (by decide) ?_
  refine lv_iconst (v := (0 : Int32)) hx hb dL_holds_25 (by decide) ?_
  cases hf
  exact zl_iret X hR (Nat.le_refl _) dL_holds_26 (Nat.le_of_ble_eq_true rfl) (Nat.le_of_ble_eq_true rfl)
set_option maxHeartbeats 4000000 in
set_option maxRecDepth 100000 in
theorem mt_L_holds {D : va_G} {dA : Nat → ClassId} {base t0 : Nat} {l : Launch} (hT : l.stackTraces = false) (x0 : Nat) (x1 : Int32) (x2 : Nat) (h : zz_H) (n : Nat) {r0 : Int32} {hF : zz_H} {nF : Nat} (hf : f_L_holds t0 x0 x1 x2 h n = some (r0, hF, nF)) : zz_ML D dA base t0 l yL_holds cL_holds 4 [(0, 16, 19, 20), (0, 16, 22, 22)] rm_L_holds [.ref x0, .int x1, .ref x2] h n r0 hF nF := by
  refine zz_ofH (cc := cL_holds) (maxL := 4) (ret := some .int) (by decide +kernel) rfl ?_
  intro p e s m args below meth c s₁ B hml hE hv
  obtain ⟨rfl, hP, hK, hN⟩ := hv
  have X : zz_X D dA base t0 "SpringseatLaw" cL_holds 4 (some .int) l p s m meth c := ⟨B.exec, B.bytes, hml, B.returns, findClass_of_methodNamed B.named, B.notSynchronized, hT, by rw [hP.1]; exact hP.2.1, hK⟩
  have hx := X.1
  have hb := X.2.1
  have hown := X.2.2.2.2.1
  have hR : zz_R D dA base h n s s.heap [] := ⟨hP, va_S.rf⟩
  have hl := lv_entry ([.ref x0, .int x1, .ref x2]) (n := 4) (by exact Nat.le_of_ble_eq_true rfl)
  rw [lg_entry_eq]
  generalize (lg_sl ([.ref x0, .int x1, .ref x2]) ++ List.replicate (4 - (lg_sl ([.ref x0, .int x1, .ref x2])).length) Slot.unset).toArray = ls at hl ⊢
  have hl : lv_has ls 4 [(0, .ref x0), (1, .int x1), (2, .ref x2)] := hl
  unfold f_L_holds at hf
  refine lv_aload_n hx hb dL_holds_0 rfl (lv_at hl 2 rfl) ?_
  refine lv_iconst (v := (0 : Int32)) hx hb dL_holds_1 (by decide) ?_
  refine lv_aload_n hx hb dL_holds_2 rfl (lv_at hl 0 rfl) ?_
  refine lv_iload_n hx hb dL_holds_3 rfl (lv_at hl 1 rfl) ?_
  obtain ⟨fs4, ho4, hf⟩ := zz_obS_i hf
  rcases zz_th_i hf with ⟨v4, hv4, hf⟩ | ⟨k4, hv4, hf⟩
  · refine zl_V X hR hl.1 (As := [.int x1]) (rest := [.int (0 : Int32), .ref x2]) (C := RX9) (T := TX9) (N := 6) (ro := (fun v : Int32 => some (Value.int v)) v4) (mt_X9_holds hT x0 x1 h n hv4) rfl ho4 mf_X9_holds q_1185 q_1186 q_1187 ⟨Nat.le_of_ble_eq_true rfl, Nat.le_of_ble_eq_true rfl⟩ ⟨Nat.le_of_ble_eq_true rfl, Nat.le_of_ble_eq_true rfl⟩ rfl (Nat.le_of_ble_eq_true rfl) dL_holds_4 (fun H locs hR => ?_)
    refine W.eq (g2 := F0 m 7 ls [.int v4, .int (0 : Int32), .ref x2]) rfl ?_
    refine W.widen (k := 2) (n := 12) (Nat.le_of_ble_eq_true rfl) (Nat.le_of_ble_eq_true rfl) ?_
    refine lv_if_eq (tgt := 14) hx hb dL_holds_7 (by decide) (fun c7 => ?_) (fun c7 => ?_)
    · replace hf := zz_pos c7 hf
      refine lv_lconst (v := (0 : Int64)) hx hb dL_holds_14 (by decide) ?_
      exact bk_L_holds_15 X hT hR (lv_sub hl [] rfl) hf
    · replace hf := zz_neg c7 hf
      refine lv_lconst (v := (1 : Int64)) hx hb dL_holds_10 (by decide) ?_
      refine lv_goto (tgt := 15) hx hb dL_holds_11 (by decide) ?_
      exact bk_L_holds_15 X hT hR (lv_sub hl [] rfl) hf
  · refine zl_X X hR hl.1 (As := [.int x1]) (rest := [.int (0 : Int32), .ref x2]) (C := RX9) (T := TX9) (N := 6) (k := k4) (mt_X9_holds hT x0 x1 h n hv4) rfl ho4 mf_X9_holds q_1185 q_1186 q_1187 ⟨Nat.le_of_ble_eq_true rfl, Nat.le_of_ble_eq_true rfl⟩ ⟨Nat.le_of_ble_eq_true rfl, Nat.le_of_ble_eq_true rfl⟩ rfl (Nat.le_of_ble_eq_true rfl) dL_holds_4 (fun H locs nn ce qq hnn hR hce hcv hcl => ?_)
    by_cases ck : k4 = 2
    · subst ck
      replace hf := zz_pos rfl hf
      refine zl_catch X hN hE (k := 2) [] [(0, 16, 22, 22)] (0, 16, 19, 20) rfl (by decide) (fun z hz => nomatch hz) rfl (by decide) q_576 q_591 hce hcv hcl ?_
      refine lv_astore_n (i := 3) (lv' := [(3, .ref qq)]) hx hb dL_holds_19 rfl (lv_sub hl [] rfl) (by decide) rfl (fun ls hl => ?_)
      refine lv_iconst (v := (1 : Int32)) hx hb dL_holds_20 (by decide) ?_
      cases hf
      exact zl_iret X hR hnn dL_holds_21 (Nat.le_of_ble_eq_true rfl) (Nat.le_of_ble_eq_true rfl)
    replace hf := zz_neg ck hf
    by_cases ck : k4 = 3
    · subst ck
      replace hf := zz_pos rfl hf
      refine zl_catch X hN hE (k := 3) [(0, 16, 19, 20)] [] (0, 16, 22, 22) rfl (by decide) (by intro z hz; simp only [List.mem_cons, List.not_mem_nil, or_false] at hz; rcases hz with rfl <;> first | exact ⟨by decide, 2, by decide, by decide, q_576⟩) rfl (by decide) q_577 q_618 hce hcv hcl ?_
      refine lv_astore_n (i := 3) (lv' := [(3, .ref qq)]) hx hb dL_holds_22 rfl (lv_sub hl [] rfl) (by decide) rfl (fun ls hl => ?_)
      refine lv_iconst (v := (2 : Int32)) hx hb dL_holds_23 (by decide) ?_
      cases hf
      exact zl_iret X hR hnn dL_holds_24 (Nat.le_of_ble_eq_true rfl) (Nat.le_of_ble_eq_true rfl)
    replace hf := zz_neg ck hf
    cases hf
def rm_L_quote : Room := { frames := 9, cells := 1, slots := 6, locals := 153 }
theorem mf_L_quote : Cond.codeWith yL_quote cL_quote 4 (some .int) [(0, 9, 12, 20)] ∈ zz_G ∧ Cond.initialized yL_quote.cls ∈ zz_G ∧ (yL_quote.cls ≠ "java/lang/invoke/MethodHandle" ∧ yL_quote.cls ≠ "java/lang/invoke/VarHandle" ∧ (parseMethodDescriptor yL_quote.desc).map (fun d => d.parameters.length) = some 3) := ⟨q_1192, q_0, by decide +kernel, by decide +kernel, by decide +kernel⟩
set_option maxHeartbeats 4000000 in
set_option maxRecDepth 100000 in
theorem mt_L_quote {D : va_G} {dA : Nat → ClassId} {base t0 : Nat} {l : Launch} (hT : l.stackTraces = false) (x0 : Nat) (x1 : Int32) (x2 : Nat) (h : zz_H) (n : Nat) {r0 : Int32} {hF : zz_H} {nF : Nat} (hf : f_L_quote t0 x0 x1 x2 h n = some (r0, hF, nF)) : zz_ML D dA base t0 l yL_quote cL_quote 4 [(0, 9, 12, 20)] rm_L_quote [.ref x0, .int x1, .ref x2] h n r0 hF nF := by
  refine zz_ofH (cc := cL_quote) (maxL := 4) (ret := some .int) (by decide +kernel) rfl ?_
  intro p e s m args below meth c s₁ B hml hE hv
  obtain ⟨rfl, hP, hK, hN⟩ := hv
  have X : zz_X D dA base t0 "SpringseatLaw" cL_quote 4 (some .int) l p s m meth c := ⟨B.exec, B.bytes, hml, B.returns, findClass_of_methodNamed B.named, B.notSynchronized, hT, by rw [hP.1]; exact hP.2.1, hK⟩
  have hx := X.1
  have hb := X.2.1
  have hown := X.2.2.2.2.1
  have hR : zz_R D dA base h n s s.heap [] := ⟨hP, va_S.rf⟩
  have hl := lv_entry ([.ref x0, .int x1, .ref x2]) (n := 4) (by exact Nat.le_of_ble_eq_true rfl)
  rw [lg_entry_eq]
  generalize (lg_sl ([.ref x0, .int x1, .ref x2]) ++ List.replicate (4 - (lg_sl ([.ref x0, .int x1, .ref x2])).length) Slot.unset).toArray = ls at hl ⊢
  have hl : lv_has ls 4 [(0, .ref x0), (1, .int x1), (2, .ref x2)] := hl
  unfold f_L_quote at hf
  refine lv_aload_n hx hb dL_quote_0 rfl (lv_at hl 2 rfl) ?_
  refine lv_iconst (v := (0 : Int32)) hx hb dL_quote_1 (by decide) ?_
  refine lv_aload_n hx hb dL_quote_2 rfl (lv_at hl 0 rfl) ?_
  refine lv_iload_n hx hb dL_quote_3 rfl (lv_at hl 1 rfl) ?_
  obtain ⟨fs4, ho4, hf⟩ := zz_obS_i hf
  rcases zz_th_i hf with ⟨v4, hv4, hf⟩ | ⟨k4, hv4, hf⟩
  · refine zl_V X hR hl.1 (As := [.int x1]) (rest := [.int (0 : Int32), .ref x2]) (C := RX9) (T := TX9) (N := 6) (ro := (fun v : Int32 => some (Value.int v)) v4) (mt_X9_quote hT x0 x1 h n hv4) rfl ho4 mf_X9_quote q_1193 q_1194 q_1195 ⟨Nat.le_of_ble_eq_true rfl, Nat.le_of_ble_eq_true rfl⟩ ⟨Nat.le_of_ble_eq_true rfl, Nat.le_of_ble_eq_true rfl⟩ rfl (Nat.le_of_ble_eq_true rfl) dL_quote_4 (fun H locs hR => ?_)
    refine W.eq (g2 := F0 m 7 ls [.int v4, .int (0 : Int32), .ref x2]) rfl ?_
    refine W.widen (k := 1) (n := 6) (Nat.le_of_ble_eq_true rfl) (Nat.le_of_ble_eq_true rfl) ?_
    refine lv_i2l hx hb dL_quote_7 rfl ?_
    refine zr_last X hR (r := (some x2)) dL_quote_8 hf (fun h8 H locs hf hR => ?_)
    refine lv_goto (tgt := 15) hx hb dL_quote_9 (by decide) ?_
    refine lv_iconst (v := (0 : Int32)) hx hb dL_quote_15 (by decide) ?_
    cases hf
    exact zl_iret X hR (Nat.le_refl _) dL_quote_16 (Nat.le_of_ble_eq_true rfl) (Nat.le_of_ble_eq_true rfl)
  · refine zl_X X hR hl.1 (As := [.int x1]) (rest := [.int (0 : Int32), .ref x2]) (C := RX9) (T := TX9) (N := 6) (k := k4) (mt_X9_quote hT x0 x1 h n hv4) rfl ho4 mf_X9_quote q_1193 q_1194 q_1195 ⟨Nat.le_of_ble_eq_true rfl, Nat.le_of_ble_eq_true rfl⟩ ⟨Nat.le_of_ble_eq_true rfl, Nat.le_of_ble_eq_true rfl⟩ rfl (Nat.le_of_ble_eq_true rfl) dL_quote_4 (fun H locs nn ce qq hnn hR hce hcv hcl => ?_)
    by_cases ck : k4 = 2
    · subst ck
      replace hf := zz_pos rfl hf
      refine zl_catch X hN hE (k := 2) [] [] (0, 9, 12, 20) rfl (by decide) (fun z hz => nomatch hz) rfl (by decide) q_576 q_591 hce hcv hcl ?_
      refine lv_astore_n (i := 3) (lv' := [(3, .ref qq)]) hx hb dL_quote_12 rfl (lv_sub hl [] rfl) (by decide) rfl (fun ls hl => ?_)
      refine lv_iconst (v := (1 : Int32)) hx hb dL_quote_13 (by decide) ?_
      cases hf
      exact zl_iret X hR hnn dL_quote_14 (Nat.le_of_ble_eq_true rfl) (Nat.le_of_ble_eq_true rfl)
    replace hf := zz_neg ck hf
    cases hf
def rm_L_closedShare : Room := { frames := 7, cells := 1, slots := 6, locals := 112 }
theorem mf_L_closedShare : Cond.codeWith yL_closedShare cL_closedShare 3 (some .int) [(0, 8, 11, 53)] ∈ zz_G ∧ Cond.initialized yL_closedShare.cls ∈ zz_G ∧ (yL_closedShare.cls ≠ "java/lang/invoke/MethodHandle" ∧ yL_closedShare.cls ≠ "java/lang/invoke/VarHandle" ∧ (parseMethodDescriptor yL_closedShare.desc).map (fun d => d.parameters.length) = some 2) := ⟨q_1224, q_0, by decide +kernel, by decide +kernel, by decide +kernel⟩
set_option maxHeartbeats 4000000 in
set_option maxRecDepth 100000 in
theorem mt_L_closedShare {D : va_G} {dA : Nat → ClassId} {base t0 : Nat} {l : Launch} (hT : l.stackTraces = false) (x0 : Nat) (x1 : Nat) (h : zz_H) (n : Nat) {r0 : Int32} {hF : zz_H} {nF : Nat} (hf : f_L_closedShare t0 x0 x1 h n = some (r0, hF, nF)) : zz_ML D dA base t0 l yL_closedShare cL_closedShare 3 [(0, 8, 11, 53)] rm_L_closedShare [.ref x0, .ref x1] h n r0 hF nF := by
  refine zz_ofH (cc := cL_closedShare) (maxL := 3) (ret := some .int) (by decide +kernel) rfl ?_
  intro p e s m args below meth c s₁ B hml hE hv
  obtain ⟨rfl, hP, hK, hN⟩ := hv
  have X : zz_X D dA base t0 "SpringseatLaw" cL_closedShare 3 (some .int) l p s m meth c := ⟨B.exec, B.bytes, hml, B.returns, findClass_of_methodNamed B.named, B.notSynchronized, hT, by rw [hP.1]; exact hP.2.1, hK⟩
  have hx := X.1
  have hb := X.2.1
  have hown := X.2.2.2.2.1
  have hR : zz_R D dA base h n s s.heap [] := ⟨hP, va_S.rf⟩
  have hl := lv_entry ([.ref x0, .ref x1]) (n := 3) (by exact Nat.le_of_ble_eq_true rfl)
  rw [lg_entry_eq]
  generalize (lg_sl ([.ref x0, .ref x1]) ++ List.replicate (3 - (lg_sl ([.ref x0, .ref x1])).length) Slot.unset).toArray = ls at hl ⊢
  have hl : lv_has ls 3 [(0, .ref x0), (1, .ref x1)] := hl
  unfold f_L_closedShare at hf
  refine lv_aload_n hx hb dL_closedShare_0 rfl (lv_at hl 1 rfl) ?_
  refine lv_iconst (v := (0 : Int32)) hx hb dL_closedShare_1 (by decide) ?_
  refine lv_aload_n hx hb dL_closedShare_2 rfl (lv_at hl 0 rfl) ?_
  obtain ⟨fs3, ho3, hf⟩ := zz_obS_i hf
  rcases zz_th_i hf with ⟨v3, hv3, hf⟩ | ⟨k3, hv3, hf⟩
  · refine zl_V X hR hl.1 (As := []) (rest := [.int (0 : Int32), .ref x1]) (C := RX9) (T := TX9) (N := 6) (ro := (fun v : UInt32 => some (Value.float v)) v3) (mt_X9_closedShare hT x0 h n hv3) rfl ho3 mf_X9_closedShare q_1225 q_1226 q_1227 ⟨Nat.le_of_ble_eq_true rfl, Nat.le_of_ble_eq_true rfl⟩ ⟨Nat.le_of_ble_eq_true rfl, Nat.le_of_ble_eq_true rfl⟩ rfl (Nat.le_of_ble_eq_true rfl) dL_closedShare_3 (fun H locs hR => ?_)
    refine W.eq (g2 := F0 m 6 ls [.float v3, .int (0 : Int32), .ref x1]) rfl ?_
    refine W.widen (k := 1) (n := 6) (Nat.le_of_ble_eq_true rfl) (Nat.le_of_ble_eq_true rfl) ?_
    obtain ⟨hne6, hf⟩ := zz_nd_i hf
    refine lv_f2d hx hb dL_closedShare_6 hne6 ?_
    refine zr_dast X hR (r := (some x1)) dL_closedShare_7 hf (fun h7 H locs hf hR => ?_)
    refine lv_goto (tgt := 14) hx hb dL_closedShare_8 (by decide) ?_
    refine lv_iconst (v := (0 : Int32)) hx hb dL_closedShare_14 (by decide) ?_
    cases hf
    exact zl_iret X hR (Nat.le_refl _) dL_closedShare_15 (Nat.le_of_ble_eq_true rfl) (Nat.le_of_ble_eq_true rfl)
  · refine zl_X X hR hl.1 (As := []) (rest := [.int (0 : Int32), .ref x1]) (C := RX9) (T := TX9) (N := 6) (k := k3) (mt_X9_closedShare hT x0 h n hv3) rfl ho3 mf_X9_closedShare q_1225 q_1226 q_1227 ⟨Nat.le_of_ble_eq_true rfl, Nat.le_of_ble_eq_true rfl⟩ ⟨Nat.le_of_ble_eq_true rfl, Nat.le_of_ble_eq_true rfl⟩ rfl (Nat.le_of_ble_eq_true rfl) dL_closedShare_3 (fun H locs nn ce qq hnn hR hce hcv hcl => ?_)
    by_cases ck : k3 = 4
    · subst ck
      replace hf := zz_pos rfl hf
      refine zl_catch X hN hE (k := 4) [] [] (0, 8, 11, 53) rfl (by decide) (fun z hz => nomatch hz) rfl (by decide) q_768 q_802 hce hcv hcl ?_
      refine lv_astore_n (i := 2) (lv' := [(2, .ref qq)]) hx hb dL_closedShare_11 rfl (lv_sub hl [] rfl) (by decide) rfl (fun ls hl => ?_)
      refine lv_iconst (v := (1 : Int32)) hx hb dL_closedShare_12 (by decide) ?_
      cases hf
      exact zl_iret X hR hnn dL_closedShare_13 (Nat.le_of_ble_eq_true rfl) (Nat.le_of_ble_eq_true rfl)
    replace hf := zz_neg ck hf
    cases hf
def rm_L_meanTop : Room := { frames := 9, cells := 1, slots := 6, locals := 154 }
theorem mf_L_meanTop : Cond.codeWith yL_meanTop cL_meanTop 4 (some .int) [(0, 8, 11, 20)] ∈ zz_G ∧ Cond.initialized yL_meanTop.cls ∈ zz_G ∧ (yL_meanTop.cls ≠ "java/lang/invoke/MethodHandle" ∧ yL_meanTop.cls ≠ "java/lang/invoke/VarHandle" ∧ (parseMethodDescriptor yL_meanTop.desc).map (fun d => d.parameters.length) = some 3) := ⟨q_1233, q_0, by decide +kernel, by decide +kernel, by decide +kernel⟩
set_option maxHeartbeats 4000000 in
set_option maxRecDepth 100000 in
theorem mt_L_meanTop {D : va_G} {dA : Nat → ClassId} {base t0 : Nat} {l : Launch} (hT : l.stackTraces = false) (x0 : Nat) (x1 : Int32) (x2 : Nat) (h : zz_H) (n : Nat) {r0 : Int32} {hF : zz_H} {nF : Nat} (hf : f_L_meanTop t0 x0 x1 x2 h n = some (r0, hF, nF)) : zz_ML D dA base t0 l yL_meanTop cL_meanTop 4 [(0, 8, 11, 20)] rm_L_meanTop [.ref x0, .int x1, .ref x2] h n r0 hF nF := by
  refine zz_ofH (cc := cL_meanTop) (maxL := 4) (ret := some .int) (by decide +kernel) rfl ?_
  intro p e s m args below meth c s₁ B hml hE hv
  obtain ⟨rfl, hP, hK, hN⟩ := hv
  have X : zz_X D dA base t0 "SpringseatLaw" cL_meanTop 4 (some .int) l p s m meth c := ⟨B.exec, B.bytes, hml, B.returns, findClass_of_methodNamed B.named, B.notSynchronized, hT, by rw [hP.1]; exact hP.2.1, hK⟩
  have hx := X.1
  have hb := X.2.1
  have hown := X.2.2.2.2.1
  have hR : zz_R D dA base h n s s.heap [] := ⟨hP, va_S.rf⟩
  have hl := lv_entry ([.ref x0, .int x1, .ref x2]) (n := 4) (by exact Nat.le_of_ble_eq_true rfl)
  rw [lg_entry_eq]
  generalize (lg_sl ([.ref x0, .int x1, .ref x2]) ++ List.replicate (4 - (lg_sl ([.ref x0, .int x1, .ref x2])).length) Slot.unset).toArray = ls at hl ⊢
  have hl : lv_has ls 4 [(0, .ref x0), (1, .int x1), (2, .ref x2)] := hl
  unfold f_L_meanTop at hf
  refine lv_aload_n hx hb dL_meanTop_0 rfl (lv_at hl 2 rfl) ?_
  refine lv_iconst (v := (0 : Int32)) hx hb dL_meanTop_1 (by decide) ?_
  refine lv_aload_n hx hb dL_meanTop_2 rfl (lv_at hl 0 rfl) ?_
  refine lv_iload_n hx hb dL_meanTop_3 rfl (lv_at hl 1 rfl) ?_
  obtain ⟨fs4, ho4, hf⟩ := zz_obS_i hf
  rcases zz_th_i hf with ⟨v4, hv4, hf⟩ | ⟨k4, hv4, hf⟩
  · refine zl_V X hR hl.1 (As := [.int x1]) (rest := [.int (0 : Int32), .ref x2]) (C := RX9) (T := TX9) (N := 6) (ro := (fun v : UInt64 => some (Value.double v)) v4) (mt_X9_meanTop hT x0 x1 h n hv4) rfl ho4 mf_X9_meanTop q_1234 q_1235 q_1236 ⟨Nat.le_of_ble_eq_true rfl, Nat.le_of_ble_eq_true rfl⟩ ⟨Nat.le_of_ble_eq_true rfl, Nat.le_of_ble_eq_true rfl⟩ rfl (Nat.le_of_ble_eq_true rfl) dL_meanTop_4 (fun H locs hR => ?_)
    refine W.eq (g2 := F0 m 7 ls [.double v4, .int (0 : Int32), .ref x2]) rfl ?_
    refine W.widen (k := 1) (n := 6) (Nat.le_of_ble_eq_true rfl) (Nat.le_of_ble_eq_true rfl) ?_
    refine zr_dast X hR (r := (some x2)) dL_meanTop_7 hf (fun h7 H locs hf hR => ?_)
    refine lv_goto (tgt := 14) hx hb dL_meanTop_8 (by decide) ?_
    refine lv_iconst (v := (0 : Int32)) hx hb dL_meanTop_14 (by decide) ?_
    cases hf
    exact zl_iret X hR (Nat.le_refl _) dL_meanTop_15 (Nat.le_of_ble_eq_true rfl) (Nat.le_of_ble_eq_true rfl)
  · refine zl_X X hR hl.1 (As := [.int x1]) (rest := [.int (0 : Int32), .ref x2]) (C := RX9) (T := TX9) (N := 6) (k := k4) (mt_X9_meanTop hT x0 x1 h n hv4) rfl ho4 mf_X9_meanTop q_1234 q_1235 q_1236 ⟨Nat.le_of_ble_eq_true rfl, Nat.le_of_ble_eq_true rfl⟩ ⟨Nat.le_of_ble_eq_true rfl, Nat.le_of_ble_eq_true rfl⟩ rfl (Nat.le_of_ble_eq_true rfl) dL_meanTop_4 (fun H locs nn ce qq hnn hR hce hcv hcl => ?_)
    by_cases ck : k4 = 2
    · subst ck
      replace hf := zz_pos rfl hf
      refine zl_catch X hN hE (k := 2) [] [] (0, 8, 11, 20) rfl (by decide) (fun z hz => nomatch hz) rfl (by decide) q_576 q_591 hce hcv hcl ?_
      refine lv_astore_n (i := 3) (lv' := [(3, .ref qq)]) hx hb dL_meanTop_11 rfl (lv_sub hl [] rfl) (by decide) rfl (fun ls hl => ?_)
      refine lv_iconst (v := (1 : Int32)) hx hb dL_meanTop_12 (by decide) ?_
      cases hf
      exact zl_iret X hR hnn dL_meanTop_13 (Nat.le_of_ble_eq_true rfl) (Nat.le_of_ble_eq_true rfl)
    replace hf := zz_neg ck hf
    cases hf
end ZZQ
