def st_S : mS := (fun q => bif Nat.beq q 48 then 4 else bif Nat.beq q 51 then -3 else 0, 0, fun _ _ => 0)
abbrev st_ob (b5 b6 : Nat) (u : Nat → Nat) : List Nat := [u 14, u 17, u 21, u 5, u 8, b5, b6]
abbrev st_ar (u v : Nat → Nat) : List Nat := [u 9, u 10, u 11, u 12, u 13, u 15, u 16, u 18, u 19, u 20, u 0, u 1, u 2, u 3, u 4, u 6, u 7, v 0, v 1, v 2, v 3, v 4, v 5, v 6, v 7, v 8, v 9, v 10, v 11, v 12, v 13, v 14, v 15, v 16, v 17]
abbrev st_is : List Nat := [11, 10, 19, 1, 7, 0, 23, 12, 13, 14, 15, 16, 17, 18, 20, 21, 22, 2, 3, 4, 5, 6, 8, 9, 24, 25, 26, 27, 28, 29, 30, 31, 32, 33, 34, 35, 36, 37, 38, 39, 40, 41, 42]
abbrev st_w (cI cZ cJ : ClassId) (b5 b6 o : Nat) (u v : Nat → Nat) : va_W := q_w5 cI cZ b5 u ++ q_w6 cI cZ b6 v ++ [(o, .inl (cJ, 1, .inr (.inl (fun _ => 0))))]
set_option maxHeartbeats 4000000 in
set_option maxRecDepth 100000 in
theorem st_wf {cI cZ cJ : ClassId} {b5 b6 o : Nat} {u v st kS kV : Nat → Nat} : st_is.map (fun i => (st_w cI cZ cJ b5 b6 o u v)[i]?) = (l_w (m_adr (st_ob b5 b6 u) (st_ar u v) st kS kV) cI cZ cJ st_S o (fun _ => 0)).map some := rfl
