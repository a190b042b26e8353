/-! The law's loop (printed by wip/whole/gen_law.py): out of one contract a call. -/
/-- a call of the class and of the reference: the same answer, the coupling kept -/
def ty_ok (CR : Nat → MI → MI → Prop) (m1 m2 : Nat) (as : List PV) : Prop := ∀ (L t : Nat) (r : MR), px_hr r → ∀ (n d : Nat) (i l : MI), n < 600 → CR n i l →
  ∃ (v : Int) (i1 l1 i2 l2 : MI), px_C (d + 40) m1 (vR 3 :: as) (px_sh L, i, l, r, t) = some (some (vI v), (px_sh L, i1, l1, r, t)) ∧
    px_C (d + 40) m2 (vR 123 :: as) (px_sh L, i1, l1, r, t) = some (some (vI v), (px_sh L, i2, l2, r, t)) ∧ CR (n + 1) i2 l2 ∧ i1 0 = i 0 ∧ i2 0 = i 0
section TYL
variable {L t : Nat} {r : MR}
theorem lw_38 (hr : px_hr r) (d : Nat) (i l : MI) (x3 : Int) (hL : L ≤ 4098) (h0 : 2 ≤ x3) (h1 : x3 ≤ 5000) : px_X (d + 1) 243 (38, [vR 0, vR 3, vR 123, vI x3], []) (px_sh L, i, l, r, t) = if ((L : Int) - 8) < x3 then some (some (vI 1), (px_sh L, i, l, r, t)) else if (px_and (i 0 x3) 31) = 0 then if (i 0 (x3 + 3)) = 0 then px_X (d + 1) 243 (208, [vR 0, vR 3, vR 123, vI x3], [vI 0, vI (i 0 (x3 + 2)), vI (i 0 (x3 + 1)), vR 3]) (px_sh L, i, l, r, t) else px_X (d + 1) 243 (208, [vR 0, vR 3, vR 123, vI x3], [vI 1, vI (i 0 (x3 + 2)), vI (i 0 (x3 + 1)), vR 3]) (px_sh L, i, l, r, t) else if (px_and (i 0 x3) 31) = 1 then (px_C d 2 [vR 3, vI (i 0 (x3 + 1))] (px_sh L, i, l, r, t)).bind (fun q => px_X (d + 1) 243 (px_psh (252, [vR 0, vR 3, vR 123, vI x3], []) q.1) q.2) else if (px_and (i 0 x3) 31) = 2 then (px_C d 3 [vR 3, vI (i 0 (x3 + 1)), vI (i 0 (x3 + 2))] (px_sh L, i, l, r, t)).bind (fun q => px_X (d + 1) 243 (px_psh (280, [vR 0, vR 3, vR 123, vI x3], []) q.1) q.2) else if (px_and (i 0 x3) 31) = 3 then (px_C d 4 [vR 3, vI (i 0 (x3 + 1)), vI (i 0 (x3 + 2))] (px_sh L, i, l, r, t)).bind (fun q => px_X (d + 1) 243 (px_psh (313, [vR 0, vR 3, vR 123, vI x3], []) q.1) q.2) else if (px_and (i 0 x3) 31) = 4 then if (i 0 (x3 + 3)) = 0 then px_X (d + 1) 243 (356, [vR 0, vR 3, vR 123, vI x3], [vI 0, vI (i 0 (x3 + 2)), vI (i 0 (x3 + 1)), vR 3]) (px_sh L, i, l, r, t) else px_X (d + 1) 243 (356, [vR 0, vR 3, vR 123, vI x3], [vI 1, vI (i 0 (x3 + 2)), vI (i 0 (x3 + 1)), vR 3]) (px_sh L, i, l, r, t) else if (px_and (i 0 x3) 31) = 5 then if (i 0 (x3 + 3)) = 0 then px_X (d + 1) 243 (459, [vR 0, vR 3, vR 123, vI x3], [vI 0, vI (i 0 (x3 + 2)), vI (i 0 (x3 + 1)), vR 3]) (px_sh L, i, l, r, t) else px_X (d + 1) 243 (459, [vR 0, vR 3, vR 123, vI x3], [vI 1, vI (i 0 (x3 + 2)), vI (i 0 (x3 + 1)), vR 3]) (px_sh L, i, l, r, t) else if (px_and (i 0 x3) 31) = 6 then (px_C d 7 [vR 3, vI (i 0 (x3 + 1)), vI (i 0 (x3 + 2)), vI (i 0 (x3 + 3)), vI (i 0 (x3 + 4)), vI (i 0 (x3 + 5))] (px_sh L, i, l, r, t)).bind (fun q => px_X (d + 1) 243 (px_psh (523, [vR 0, vR 3, vR 123, vI x3], []) q.1) q.2) else if (px_and (i 0 x3) 31) = 7 then (px_C d 8 [vR 3, vI (i 0 (x3 + 1))] (px_sh L, i, l, r, t)).bind (fun q => px_X (d + 1) 243 (px_psh (566, [vR 0, vR 3, vR 123, vI x3], []) q.1) q.2) else if (px_and (i 0 x3) 31) = 8 then (px_C d 9 [vR 3] (px_sh L, i, l, r, t)).bind (fun q => px_X (d + 1) 243 (px_psh (584, [vR 0, vR 3, vR 123, vI x3], []) q.1) q.2) else if (px_and (i 0 x3) 31) = 9 then (px_C d 10 [vR 3, vI (i 0 (x3 + 1))] (px_sh L, i, l, r, t)).bind (fun q => px_X (d + 1) 243 (px_psh (602, [vR 0, vR 3, vR 123, vI x3], []) q.1) q.2) else if (px_and (i 0 x3) 31) = 10 then (px_C d 11 [vR 3, vI (i 0 (x3 + 1))] (px_sh L, i, l, r, t)).bind (fun q => px_X (d + 1) 243 (px_psh (625, [vR 0, vR 3, vR 123, vI x3], []) q.1) q.2) else if (px_and (i 0 x3) 31) = 11 then (px_C d 12 [vR 3, vI (i 0 (x3 + 1))] (px_sh L, i, l, r, t)).bind (fun q => px_X (d + 1) 243 (px_psh (648, [vR 0, vR 3, vR 123, vI x3], []) q.1) q.2) else if (px_and (i 0 x3) 31) = 12 then (px_C d 13 [vR 3, vI (i 0 (x3 + 1)), vI (i 0 (x3 + 2))] (px_sh L, i, l, r, t)).bind (fun q => px_X (d + 1) 243 (px_psh (676, [vR 0, vR 3, vR 123, vI x3], []) q.1) q.2) else if (px_and (i 0 x3) 31) = 13 then (px_C d 14 [vR 3, vI (i 0 (x3 + 1)), vI (i 0 (x3 + 2)), vI (i 0 (x3 + 3))] (px_sh L, i, l, r, t)).bind (fun q => px_X (d + 1) 243 (px_psh (714, [vR 0, vR 3, vR 123, vI x3], []) q.1) q.2) else if (px_and (i 0 x3) 31) = 14 then (px_C d 15 [vR 3, vI (i 0 (x3 + 1)), vI (i 0 (x3 + 2))] (px_sh L, i, l, r, t)).bind (fun q => px_X (d + 1) 243 (px_psh (752, [vR 0, vR 3, vR 123, vI x3], []) q.1) q.2) else if (px_and (i 0 x3) 31) = 15 then (px_C d 16 [vR 3, vI (i 0 (x3 + 1)), vI (i 0 (x3 + 2))] (px_sh L, i, l, r, t)).bind (fun q => px_X (d + 1) 243 (px_psh (785, [vR 0, vR 3, vR 123, vI x3], []) q.1) q.2) else if (px_and (i 0 x3) 31) = 16 then (px_C d 17 [vR 3, vI (i 0 (x3 + 1)), vI (i 0 (x3 + 2)), vI (i 0 (x3 + 3))] (px_sh L, i, l, r, t)).bind (fun q => px_X (d + 1) 243 (px_psh (823, [vR 0, vR 3, vR 123, vI x3], []) q.1) q.2) else if (px_and (i 0 x3) 31) = 17 then (px_C d 18 [vR 3, vI (i 0 (x3 + 1))] (px_sh L, i, l, r, t)).bind (fun q => px_X (d + 1) 243 (px_psh (856, [vR 0, vR 3, vR 123, vI x3], []) q.1) q.2) else if (px_and (i 0 x3) 31) = 18 then (px_C d 19 [vR 3, vI (i 0 (x3 + 1)), vI (i 0 (x3 + 2)), vI (i 0 (x3 + 3)), vI (i 0 (x3 + 4))] (px_sh L, i, l, r, t)).bind (fun q => px_X (d + 1) 243 (px_psh (894, [vR 0, vR 3, vR 123, vI x3], []) q.1) q.2) else if (px_and (i 0 x3) 31) = 19 then (px_C d 20 [vR 3, vI (i 0 (x3 + 1)), vI (i 0 (x3 + 2))] (px_sh L, i, l, r, t)).bind (fun q => px_X (d + 1) 243 (px_psh (937, [vR 0, vR 3, vR 123, vI x3], []) q.1) q.2) else if (px_and (i 0 x3) 31) = 20 then (px_C d 21 [vR 3, vI (i 0 (x3 + 1)), vI (i 0 (x3 + 2))] (px_sh L, i, l, r, t)).bind (fun q => px_X (d + 1) 243 (px_psh (970, [vR 0, vR 3, vR 123, vI x3], []) q.1) q.2) else if (px_and (i 0 x3) 31) = 21 then (px_C d 22 [vR 3, vI (i 0 (x3 + 1))] (px_sh L, i, l, r, t)).bind (fun q => px_X (d + 1) 243 (px_psh (998, [vR 0, vR 3, vR 123, vI x3], []) q.1) q.2) else if (px_and (i 0 x3) 31) = 22 then (px_C d 23 [vR 3] (px_sh L, i, l, r, t)).bind (fun q => px_X (d + 1) 243 (px_psh (1016, [vR 0, vR 3, vR 123, vI x3], []) q.1) q.2) else if (px_and (i 0 x3) 31) = 23 then (px_C d 24 [vR 3, vI (i 0 (x3 + 1)), vI (i 0 (x3 + 2)), vI (i 0 (x3 + 3))] (px_sh L, i, l, r, t)).bind (fun q => px_X (d + 1) 243 (px_psh (1044, [vR 0, vR 3, vR 123, vI x3], []) q.1) q.2) else if (px_and (i 0 x3) 31) = 24 then (px_C d 25 [vR 3, vI (i 0 (x3 + 1))] (px_sh L, i, l, r, t)).bind (fun q => px_X (d + 1) 243 (px_psh (1077, [vR 0, vR 3, vR 123, vI x3], []) q.1) q.2) else if (px_and (i 0 x3) 31) = 25 then (px_C d 26 [vR 3, vI (i 0 (x3 + 1)), vI (i 0 (x3 + 2))] (px_sh L, i, l, r, t)).bind (fun q => px_X (d + 1) 243 (px_psh (1105, [vR 0, vR 3, vR 123, vI x3], []) q.1) q.2) else if (px_and (i 0 x3) 31) = 26 then (px_C d 27 [vR 3] (px_sh L, i, l, r, t)).bind (fun q => px_X (d + 1) 243 (px_psh (1128, [vR 0, vR 3, vR 123, vI x3], []) q.1) q.2) else if (px_and (i 0 x3) 31) = 27 then (px_C d 28 [vR 3] (px_sh L, i, l, r, t)).bind (fun q => px_X (d + 1) 243 (px_psh (1141, [vR 0, vR 3, vR 123, vI x3], []) q.1) q.2) else if (px_and (i 0 x3) 31) = 28 then (px_C d 29 [vR 3, vI (i 0 (x3 + 1))] (px_sh L, i, l, r, t)).bind (fun q => px_X (d + 1) 243 (px_psh (1159, [vR 0, vR 3, vR 123, vI x3], []) q.1) q.2) else px_X (d + 1) 243 (38, [vR 0, vR 3, vR 123, vI (x3 + 8)], []) (px_sh L, i, l, r, t) := by
  have w1 : px_w32 (x3 + 1) = x3 + 1 := ty_w (by omega)
  have w2 : px_w32 (x3 + 2) = x3 + 2 := ty_w (by omega)
  have w3 : px_w32 (x3 + 3) = x3 + 3 := ty_w (by omega)
  have w4 : px_w32 (x3 + 4) = x3 + 4 := ty_w (by omega)
  have w5 : px_w32 (x3 + 5) = x3 + 5 := ty_w (by omega)
  have w6 : px_w32 (x3 + 6) = x3 + 6 := ty_w (by omega)
  have w7 : px_w32 (x3 + 7) = x3 + 7 := ty_w (by omega)
  have w8 : px_w32 (x3 + 8) = x3 + 8 := ty_w (by omega)
  have wL : px_w32 ((L : Int) - 8) = (L : Int) - 8 := ty_w (by omega)
  have hb := b243_38 (L := L) (t := t) hr d i l x3 (by intros; omega) (by intros; omega) (by intros; omega) (by intros; omega) (by intros; omega) (by intros; omega) (by intros; omega) (by intros; omega) (by intros; omega) (by intros; omega) (by intros; omega) (by intros; omega) (by intros; omega) (by intros; omega) (by intros; omega) (by intros; omega) (by intros; omega) (by intros; omega) (by intros; omega) (by intros; omega) (by intros; omega) (by intros; omega) (by intros; omega) (by intros; omega) (by intros; omega) (by intros; omega) (by intros; omega) (by intros; omega) (by intros; omega) (by intros; omega) (by intros; omega) (by intros; omega) (by intros; omega) (by intros; omega) (by intros; omega) (by intros; omega) (by intros; omega) (by intros; omega) (by intros; omega) (by intros; omega) (by intros; omega) (by intros; omega) (by intros; omega) (by intros; omega) (by intros; omega) (by intros; omega) (by intros; omega) (by intros; omega) (by intros; omega) (by intros; omega) (by intros; omega) (by intros; omega) (by intros; omega)
  simp only [w1, w2, w3, w4, w5, w6, w7, w8, wL] at hb
  exact hb
theorem lw_0 {CR : Nat → MI → MI → Prop} (hr : px_hr r) (n d : Nat) (i l : MI) (x3 : Int) (hn : n < 600) (hc : CR n i l) (hL : L ≤ 4098) (h0 : 2 ≤ x3) (h1 : x3 + 8 ≤ L) (hk : px_and (i 0 x3) 31 = 0) (hs : ∀ x, px_r32 (i 0 x)) (H : ∀ a1 : Int, px_r32 a1 → ∀ a2 : Int, px_r32 a2 → ∀ b : Int, (b = 0 ∨ b = 1) → ty_ok CR 1 147 [vI a1, vI a2, vI b]) : ∃ i2 l2 : MI, CR (n + 1) i2 l2 ∧ i2 0 = i 0 ∧ px_X (d + 40 + 1) 243 (38, [vR 0, vR 3, vR 123, vI x3], []) (px_sh L, i, l, r, t) = px_X (d + 40 + 1) 243 (38, [vR 0, vR 3, vR 123, vI (x3 + 8)], []) (px_sh L, i2, l2, r, t) := by
  have w1 : px_w32 (x3 + 1) = x3 + 1 := ty_w (by omega)
  have w2 : px_w32 (x3 + 2) = x3 + 2 := ty_w (by omega)
  have w3 : px_w32 (x3 + 3) = x3 + 3 := ty_w (by omega)
  have w4 : px_w32 (x3 + 4) = x3 + 4 := ty_w (by omega)
  have w5 : px_w32 (x3 + 5) = x3 + 5 := ty_w (by omega)
  have w6 : px_w32 (x3 + 6) = x3 + 6 := ty_w (by omega)
  have w7 : px_w32 (x3 + 7) = x3 + 7 := ty_w (by omega)
  have w8 : px_w32 (x3 + 8) = x3 + 8 := ty_w (by omega)
  have wL : px_w32 ((L : Int) - 8) = (L : Int) - 8 := ty_w (by omega)
  by_cases hb : i 0 (x3 + 3) = 0
  · obtain ⟨v, i1, l1, i2, l2, e1, e2, e3, e4, e5⟩ := H _ (hs (x3 + 1)) _ (hs (x3 + 2)) 0 (by omega) L t r hr n d i l hn hc
    refine ⟨i2, l2, e3, e5, ?_⟩
    rw [lw_38 hr (d + 40) i l x3 hL h0 (by omega), if_neg (by omega), if_pos hk, if_pos hb, b243_208 hr (d + 40) i l x3 _ _ _]
    try simp only [w1, w2, w3, w4, w5, w6, w7, w8]
    rw [e1, Option.bind_some, px_psh_some, b243_211 hr (d + 40 + 1) i1 l1 x3 v (by omega) (by omega) (by omega)]
    try simp only [w1, w2, w3, w4, w5, w6, w7, w8, e4]
    rw [if_pos hb, b243_235 hr (d + 40) i1 l1 x3 _ _ _ _]
    try simp only [w1, w2, w3, w4, w5, w6, w7, w8, e4]
    rw [e2, Option.bind_some, px_psh_some, b243_238 hr, if_pos rfl, w8]
  · obtain ⟨v, i1, l1, i2, l2, e1, e2, e3, e4, e5⟩ := H _ (hs (x3 + 1)) _ (hs (x3 + 2)) 1 (by omega) L t r hr n d i l hn hc
    refine ⟨i2, l2, e3, e5, ?_⟩
    rw [lw_38 hr (d + 40) i l x3 hL h0 (by omega), if_neg (by omega), if_pos hk, if_neg hb, b243_208 hr (d + 40) i l x3 _ _ _]
    try simp only [w1, w2, w3, w4, w5, w6, w7, w8]
    rw [e1, Option.bind_some, px_psh_some, b243_211 hr (d + 40 + 1) i1 l1 x3 v (by omega) (by omega) (by omega)]
    try simp only [w1, w2, w3, w4, w5, w6, w7, w8, e4]
    rw [if_neg hb, b243_235 hr (d + 40) i1 l1 x3 _ _ _ _]
    try simp only [w1, w2, w3, w4, w5, w6, w7, w8, e4]
    rw [e2, Option.bind_some, px_psh_some, b243_238 hr, if_pos rfl, w8]
theorem lw_1 {CR : Nat → MI → MI → Prop} (hr : px_hr r) (n d : Nat) (i l : MI) (x3 : Int) (hn : n < 600) (hc : CR n i l) (hL : L ≤ 4098) (h0 : 2 ≤ x3) (h1 : x3 + 8 ≤ L) (hk : px_and (i 0 x3) 31 = 1) (hs : ∀ x, px_r32 (i 0 x)) (H : ∀ a1 : Int, px_r32 a1 → ty_ok CR 2 148 [vI a1]) : ∃ i2 l2 : MI, CR (n + 1) i2 l2 ∧ i2 0 = i 0 ∧ px_X (d + 40 + 1) 243 (38, [vR 0, vR 3, vR 123, vI x3], []) (px_sh L, i, l, r, t) = px_X (d + 40 + 1) 243 (38, [vR 0, vR 3, vR 123, vI (x3 + 8)], []) (px_sh L, i2, l2, r, t) := by
  obtain ⟨v, i1, l1, i2, l2, e1, e2, e3, e4, e5⟩ := H _ (hs (x3 + 1)) L t r hr n d i l hn hc
  refine ⟨i2, l2, e3, e5, ?_⟩
  have w1 : px_w32 (x3 + 1) = x3 + 1 := ty_w (by omega)
  have w2 : px_w32 (x3 + 2) = x3 + 2 := ty_w (by omega)
  have w3 : px_w32 (x3 + 3) = x3 + 3 := ty_w (by omega)
  have w4 : px_w32 (x3 + 4) = x3 + 4 := ty_w (by omega)
  have w5 : px_w32 (x3 + 5) = x3 + 5 := ty_w (by omega)
  have w6 : px_w32 (x3 + 6) = x3 + 6 := ty_w (by omega)
  have w7 : px_w32 (x3 + 7) = x3 + 7 := ty_w (by omega)
  have w8 : px_w32 (x3 + 8) = x3 + 8 := ty_w (by omega)
  have wL : px_w32 ((L : Int) - 8) = (L : Int) - 8 := ty_w (by omega)
  rw [lw_38 hr (d + 40) i l x3 hL h0 (by omega), if_neg (by omega), if_neg (by omega), if_pos hk, e1, Option.bind_some, px_psh_some, b243_252 hr (d + 40) i1 l1 x3 v (by omega), w1, e4, e2, Option.bind_some, px_psh_some, b243_261 hr, if_pos rfl, w8]
theorem lw_2 {CR : Nat → MI → MI → Prop} (hr : px_hr r) (n d : Nat) (i l : MI) (x3 : Int) (hn : n < 600) (hc : CR n i l) (hL : L ≤ 4098) (h0 : 2 ≤ x3) (h1 : x3 + 8 ≤ L) (hk : px_and (i 0 x3) 31 = 2) (hs : ∀ x, px_r32 (i 0 x)) (H : ∀ a1 : Int, px_r32 a1 → ∀ a2 : Int, px_r32 a2 → ty_ok CR 3 149 [vI a1, vI a2]) : ∃ i2 l2 : MI, CR (n + 1) i2 l2 ∧ i2 0 = i 0 ∧ px_X (d + 40 + 1) 243 (38, [vR 0, vR 3, vR 123, vI x3], []) (px_sh L, i, l, r, t) = px_X (d + 40 + 1) 243 (38, [vR 0, vR 3, vR 123, vI (x3 + 8)], []) (px_sh L, i2, l2, r, t) := by
  obtain ⟨v, i1, l1, i2, l2, e1, e2, e3, e4, e5⟩ := H _ (hs (x3 + 1)) _ (hs (x3 + 2)) L t r hr n d i l hn hc
  refine ⟨i2, l2, e3, e5, ?_⟩
  have w1 : px_w32 (x3 + 1) = x3 + 1 := ty_w (by omega)
  have w2 : px_w32 (x3 + 2) = x3 + 2 := ty_w (by omega)
  have w3 : px_w32 (x3 + 3) = x3 + 3 := ty_w (by omega)
  have w4 : px_w32 (x3 + 4) = x3 + 4 := ty_w (by omega)
  have w5 : px_w32 (x3 + 5) = x3 + 5 := ty_w (by omega)
  have w6 : px_w32 (x3 + 6) = x3 + 6 := ty_w (by omega)
  have w7 : px_w32 (x3 + 7) = x3 + 7 := ty_w (by omega)
  have w8 : px_w32 (x3 + 8) = x3 + 8 := ty_w (by omega)
  have wL : px_w32 ((L : Int) - 8) = (L : Int) - 8 := ty_w (by omega)
  rw [lw_38 hr (d + 40) i l x3 hL h0 (by omega), if_neg (by omega), if_neg (by omega), if_neg (by omega), if_pos hk, e1, Option.bind_some, px_psh_some, b243_280 hr (d + 40) i1 l1 x3 v (by omega) (by omega), w1, w2, e4, e2, Option.bind_some, px_psh_some, b243_294 hr, if_pos rfl, w8]
theorem lw_3 {CR : Nat → MI → MI → Prop} (hr : px_hr r) (n d : Nat) (i l : MI) (x3 : Int) (hn : n < 600) (hc : CR n i l) (hL : L ≤ 4098) (h0 : 2 ≤ x3) (h1 : x3 + 8 ≤ L) (hk : px_and (i 0 x3) 31 = 3) (hs : ∀ x, px_r32 (i 0 x)) (H : ∀ a1 : Int, px_r32 a1 → ∀ a2 : Int, px_r32 a2 → ty_ok CR 4 150 [vI a1, vI a2]) : ∃ i2 l2 : MI, CR (n + 1) i2 l2 ∧ i2 0 = i 0 ∧ px_X (d + 40 + 1) 243 (38, [vR 0, vR 3, vR 123, vI x3], []) (px_sh L, i, l, r, t) = px_X (d + 40 + 1) 243 (38, [vR 0, vR 3, vR 123, vI (x3 + 8)], []) (px_sh L, i2, l2, r, t) := by
  obtain ⟨v, i1, l1, i2, l2, e1, e2, e3, e4, e5⟩ := H _ (hs (x3 + 1)) _ (hs (x3 + 2)) L t r hr n d i l hn hc
  refine ⟨i2, l2, e3, e5, ?_⟩
  have w1 : px_w32 (x3 + 1) = x3 + 1 := ty_w (by omega)
  have w2 : px_w32 (x3 + 2) = x3 + 2 := ty_w (by omega)
  have w3 : px_w32 (x3 + 3) = x3 + 3 := ty_w (by omega)
  have w4 : px_w32 (x3 + 4) = x3 + 4 := ty_w (by omega)
  have w5 : px_w32 (x3 + 5) = x3 + 5 := ty_w (by omega)
  have w6 : px_w32 (x3 + 6) = x3 + 6 := ty_w (by omega)
  have w7 : px_w32 (x3 + 7) = x3 + 7 := ty_w (by omega)
  have w8 : px_w32 (x3 + 8) = x3 + 8 := ty_w (by omega)
  have wL : px_w32 ((L : Int) - 8) = (L : Int) - 8 := ty_w (by omega)
  rw [lw_38 hr (d + 40) i l x3 hL h0 (by omega), if_neg (by omega), if_neg (by omega), if_neg (by omega), if_neg (by omega), if_pos hk, e1, Option.bind_some, px_psh_some, b243_313 hr (d + 40) i1 l1 x3 v (by omega) (by omega), w1, w2, e4, e2, Option.bind_some, px_psh_some, b243_327 hr, if_pos rfl, w8]
theorem lw_4 {CR : Nat → MI → MI → Prop} (hr : px_hr r) (n d : Nat) (i l : MI) (x3 : Int) (hn : n < 600) (hc : CR n i l) (hL : L ≤ 4098) (h0 : 2 ≤ x3) (h1 : x3 + 8 ≤ L) (hk : px_and (i 0 x3) 31 = 4) (hs : ∀ x, px_r32 (i 0 x)) (H : ∀ a1 : Int, px_r32 a1 → ∀ a2 : Int, px_r32 a2 → ∀ b : Int, (b = 0 ∨ b = 1) → ∀ a4 : Int, px_r32 a4 → ∀ a5 : Int, px_r32 a5 → ∀ a6 : Int, px_r32 a6 → ∀ a7 : Int, px_r32 a7 → ty_ok CR 5 151 [vI a1, vI a2, vI b, vI a4, vI a5, vI a6, vI a7]) : ∃ i2 l2 : MI, CR (n + 1) i2 l2 ∧ i2 0 = i 0 ∧ px_X (d + 40 + 1) 243 (38, [vR 0, vR 3, vR 123, vI x3], []) (px_sh L, i, l, r, t) = px_X (d + 40 + 1) 243 (38, [vR 0, vR 3, vR 123, vI (x3 + 8)], []) (px_sh L, i2, l2, r, t) := by
  have w1 : px_w32 (x3 + 1) = x3 + 1 := ty_w (by omega)
  have w2 : px_w32 (x3 + 2) = x3 + 2 := ty_w (by omega)
  have w3 : px_w32 (x3 + 3) = x3 + 3 := ty_w (by omega)
  have w4 : px_w32 (x3 + 4) = x3 + 4 := ty_w (by omega)
  have w5 : px_w32 (x3 + 5) = x3 + 5 := ty_w (by omega)
  have w6 : px_w32 (x3 + 6) = x3 + 6 := ty_w (by omega)
  have w7 : px_w32 (x3 + 7) = x3 + 7 := ty_w (by omega)
  have w8 : px_w32 (x3 + 8) = x3 + 8 := ty_w (by omega)
  have wL : px_w32 ((L : Int) - 8) = (L : Int) - 8 := ty_w (by omega)
  by_cases hb : i 0 (x3 + 3) = 0
  · obtain ⟨v, i1, l1, i2, l2, e1, e2, e3, e4, e5⟩ := H _ (hs (x3 + 1)) _ (hs (x3 + 2)) 0 (by omega) _ (hs (x3 + 4)) _ (hs (x3 + 5)) _ (hs (x3 + 6)) _ (hs (x3 + 7)) L t r hr n d i l hn hc
    refine ⟨i2, l2, e3, e5, ?_⟩
    rw [lw_38 hr (d + 40) i l x3 hL h0 (by omega), if_neg (by omega), if_neg (by omega), if_neg (by omega), if_neg (by omega), if_neg (by omega), if_pos hk, if_pos hb, b243_356 hr (d + 40) i l x3 _ _ _ (by omega) (by omega) (by omega) (by omega)]
    try simp only [w1, w2, w3, w4, w5, w6, w7, w8]
    rw [e1, Option.bind_some, px_psh_some, b243_381 hr (d + 40 + 1) i1 l1 x3 v (by omega) (by omega) (by omega)]
    try simp only [w1, w2, w3, w4, w5, w6, w7, w8, e4]
    rw [if_pos hb, b243_405 hr (d + 40) i1 l1 x3 _ _ _ _ (by omega) (by omega) (by omega) (by omega)]
    try simp only [w1, w2, w3, w4, w5, w6, w7, w8, e4]
    rw [e2, Option.bind_some, px_psh_some, b243_430 hr, if_pos rfl, w8]
  · obtain ⟨v, i1, l1, i2, l2, e1, e2, e3, e4, e5⟩ := H _ (hs (x3 + 1)) _ (hs (x3 + 2)) 1 (by omega) _ (hs (x3 + 4)) _ (hs (x3 + 5)) _ (hs (x3 + 6)) _ (hs (x3 + 7)) L t r hr n d i l hn hc
    refine ⟨i2, l2, e3, e5, ?_⟩
    rw [lw_38 hr (d + 40) i l x3 hL h0 (by omega), if_neg (by omega), if_neg (by omega), if_neg (by omega), if_neg (by omega), if_neg (by omega), if_pos hk, if_neg hb, b243_356 hr (d + 40) i l x3 _ _ _ (by omega) (by omega) (by omega) (by omega)]
    try simp only [w1, w2, w3, w4, w5, w6, w7, w8]
    rw [e1, Option.bind_some, px_psh_some, b243_381 hr (d + 40 + 1) i1 l1 x3 v (by omega) (by omega) (by omega)]
    try simp only [w1, w2, w3, w4, w5, w6, w7, w8, e4]
    rw [if_neg hb, b243_405 hr (d + 40) i1 l1 x3 _ _ _ _ (by omega) (by omega) (by omega) (by omega)]
    try simp only [w1, w2, w3, w4, w5, w6, w7, w8, e4]
    rw [e2, Option.bind_some, px_psh_some, b243_430 hr, if_pos rfl, w8]
theorem lw_5 {CR : Nat → MI → MI → Prop} (hr : px_hr r) (n d : Nat) (i l : MI) (x3 : Int) (hn : n < 600) (hc : CR n i l) (hL : L ≤ 4098) (h0 : 2 ≤ x3) (h1 : x3 + 8 ≤ L) (hk : px_and (i 0 x3) 31 = 5) (hs : ∀ x, px_r32 (i 0 x)) (H : ∀ a1 : Int, px_r32 a1 → ∀ a2 : Int, px_r32 a2 → ∀ b : Int, (b = 0 ∨ b = 1) → ty_ok CR 6 152 [vI a1, vI a2, vI b]) : ∃ i2 l2 : MI, CR (n + 1) i2 l2 ∧ i2 0 = i 0 ∧ px_X (d + 40 + 1) 243 (38, [vR 0, vR 3, vR 123, vI x3], []) (px_sh L, i, l, r, t) = px_X (d + 40 + 1) 243 (38, [vR 0, vR 3, vR 123, vI (x3 + 8)], []) (px_sh L, i2, l2, r, t) := by
  have w1 : px_w32 (x3 + 1) = x3 + 1 := ty_w (by omega)
  have w2 : px_w32 (x3 + 2) = x3 + 2 := ty_w (by omega)
  have w3 : px_w32 (x3 + 3) = x3 + 3 := ty_w (by omega)
  have w4 : px_w32 (x3 + 4) = x3 + 4 := ty_w (by omega)
  have w5 : px_w32 (x3 + 5) = x3 + 5 := ty_w (by omega)
  have w6 : px_w32 (x3 + 6) = x3 + 6 := ty_w (by omega)
  have w7 : px_w32 (x3 + 7) = x3 + 7 := ty_w (by omega)
  have w8 : px_w32 (x3 + 8) = x3 + 8 := ty_w (by omega)
  have wL : px_w32 ((L : Int) - 8) = (L : Int) - 8 := ty_w (by omega)
  by_cases hb : i 0 (x3 + 3) = 0
  · obtain ⟨v, i1, l1, i2, l2, e1, e2, e3, e4, e5⟩ := H _ (hs (x3 + 1)) _ (hs (x3 + 2)) 0 (by omega) L t r hr n d i l hn hc
    refine ⟨i2, l2, e3, e5, ?_⟩
    rw [lw_38 hr (d + 40) i l x3 hL h0 (by omega), if_neg (by omega), if_neg (by omega), if_neg (by omega), if_neg (by omega), if_neg (by omega), if_neg (by omega), if_pos hk, if_pos hb, b243_459 hr (d + 40) i l x3 _ _ _]
    try simp only [w1, w2, w3, w4, w5, w6, w7, w8]
    rw [e1, Option.bind_some, px_psh_some, b243_462 hr (d + 40 + 1) i1 l1 x3 v (by omega) (by omega) (by omega)]
    try simp only [w1, w2, w3, w4, w5, w6, w7, w8, e4]
    rw [if_pos hb, b243_486 hr (d + 40) i1 l1 x3 _ _ _ _]
    try simp only [w1, w2, w3, w4, w5, w6, w7, w8, e4]
    rw [e2, Option.bind_some, px_psh_some, b243_489 hr, if_pos rfl, w8]
  · obtain ⟨v, i1, l1, i2, l2, e1, e2, e3, e4, e5⟩ := H _ (hs (x3 + 1)) _ (hs (x3 + 2)) 1 (by omega) L t r hr n d i l hn hc
    refine ⟨i2, l2, e3, e5, ?_⟩
    rw [lw_38 hr (d + 40) i l x3 hL h0 (by omega), if_neg (by omega), if_neg (by omega), if_neg (by omega), if_neg (by omega), if_neg (by omega), if_neg (by omega), if_pos hk, if_neg hb, b243_459 hr (d + 40) i l x3 _ _ _]
    try simp only [w1, w2, w3, w4, w5, w6, w7, w8]
    rw [e1, Option.bind_some, px_psh_some, b243_462 hr (d + 40 + 1) i1 l1 x3 v (by omega) (by omega) (by omega)]
    try simp only [w1, w2, w3, w4, w5, w6, w7, w8, e4]
    rw [if_neg hb, b243_486 hr (d + 40) i1 l1 x3 _ _ _ _]
    try simp only [w1, w2, w3, w4, w5, w6, w7, w8, e4]
    rw [e2, Option.bind_some, px_psh_some, b243_489 hr, if_pos rfl, w8]
theorem lw_6 {CR : Nat → MI → MI → Prop} (hr : px_hr r) (n d : Nat) (i l : MI) (x3 : Int) (hn : n < 600) (hc : CR n i l) (hL : L ≤ 4098) (h0 : 2 ≤ x3) (h1 : x3 + 8 ≤ L) (hk : px_and (i 0 x3) 31 = 6) (hs : ∀ x, px_r32 (i 0 x)) (H : ∀ a1 : Int, px_r32 a1 → ∀ a2 : Int, px_r32 a2 → ∀ a3 : Int, px_r32 a3 → ∀ a4 : Int, px_r32 a4 → ∀ a5 : Int, px_r32 a5 → ty_ok CR 7 154 [vI a1, vI a2, vI a3, vI a4, vI a5]) : ∃ i2 l2 : MI, CR (n + 1) i2 l2 ∧ i2 0 = i 0 ∧ px_X (d + 40 + 1) 243 (38, [vR 0, vR 3, vR 123, vI x3], []) (px_sh L, i, l, r, t) = px_X (d + 40 + 1) 243 (38, [vR 0, vR 3, vR 123, vI (x3 + 8)], []) (px_sh L, i2, l2, r, t) := by
  obtain ⟨v, i1, l1, i2, l2, e1, e2, e3, e4, e5⟩ := H _ (hs (x3 + 1)) _ (hs (x3 + 2)) _ (hs (x3 + 3)) _ (hs (x3 + 4)) _ (hs (x3 + 5)) L t r hr n d i l hn hc
  refine ⟨i2, l2, e3, e5, ?_⟩
  have w1 : px_w32 (x3 + 1) = x3 + 1 := ty_w (by omega)
  have w2 : px_w32 (x3 + 2) = x3 + 2 := ty_w (by omega)
  have w3 : px_w32 (x3 + 3) = x3 + 3 := ty_w (by omega)
  have w4 : px_w32 (x3 + 4) = x3 + 4 := ty_w (by omega)
  have w5 : px_w32 (x3 + 5) = x3 + 5 := ty_w (by omega)
  have w6 : px_w32 (x3 + 6) = x3 + 6 := ty_w (by omega)
  have w7 : px_w32 (x3 + 7) = x3 + 7 := ty_w (by omega)
  have w8 : px_w32 (x3 + 8) = x3 + 8 := ty_w (by omega)
  have wL : px_w32 ((L : Int) - 8) = (L : Int) - 8 := ty_w (by omega)
  rw [lw_38 hr (d + 40) i l x3 hL h0 (by omega), if_neg (by omega), if_neg (by omega), if_neg (by omega), if_neg (by omega), if_neg (by omega), if_neg (by omega), if_neg (by omega), if_pos hk, e1, Option.bind_some, px_psh_some, b243_523 hr (d + 40) i1 l1 x3 v (by omega) (by omega) (by omega) (by omega) (by omega), w1, w2, w3, w4, w5, e4, e2, Option.bind_some, px_psh_some, b243_552 hr, if_pos rfl, w8]
theorem lw_7 {CR : Nat → MI → MI → Prop} (hr : px_hr r) (n d : Nat) (i l : MI) (x3 : Int) (hn : n < 600) (hc : CR n i l) (hL : L ≤ 4098) (h0 : 2 ≤ x3) (h1 : x3 + 8 ≤ L) (hk : px_and (i 0 x3) 31 = 7) (hs : ∀ x, px_r32 (i 0 x)) (H : ∀ a1 : Int, px_r32 a1 → ty_ok CR 8 155 [vI a1]) : ∃ i2 l2 : MI, CR (n + 1) i2 l2 ∧ i2 0 = i 0 ∧ px_X (d + 40 + 1) 243 (38, [vR 0, vR 3, vR 123, vI x3], []) (px_sh L, i, l, r, t) = px_X (d + 40 + 1) 243 (38, [vR 0, vR 3, vR 123, vI (x3 + 8)], []) (px_sh L, i2, l2, r, t) := by
  obtain ⟨v, i1, l1, i2, l2, e1, e2, e3, e4, e5⟩ := H _ (hs (x3 + 1)) L t r hr n d i l hn hc
  refine ⟨i2, l2, e3, e5, ?_⟩
  have w1 : px_w32 (x3 + 1) = x3 + 1 := ty_w (by omega)
  have w2 : px_w32 (x3 + 2) = x3 + 2 := ty_w (by omega)
  have w3 : px_w32 (x3 + 3) = x3 + 3 := ty_w (by omega)
  have w4 : px_w32 (x3 + 4) = x3 + 4 := ty_w (by omega)
  have w5 : px_w32 (x3 + 5) = x3 + 5 := ty_w (by omega)
  have w6 : px_w32 (x3 + 6) = x3 + 6 := ty_w (by omega)
  have w7 : px_w32 (x3 + 7) = x3 + 7 := ty_w (by omega)
  have w8 : px_w32 (x3 + 8) = x3 + 8 := ty_w (by omega)
  have wL : px_w32 ((L : Int) - 8) = (L : Int) - 8 := ty_w (by omega)
  rw [lw_38 hr (d + 40) i l x3 hL h0 (by omega), if_neg (by omega), if_neg (by omega), if_neg (by omega), if_neg (by omega), if_neg (by omega), if_neg (by omega), if_neg (by omega), if_neg (by omega), if_pos hk, e1, Option.bind_some, px_psh_some, b243_566 hr (d + 40) i1 l1 x3 v (by omega), w1, e4, e2, Option.bind_some, px_psh_some, b243_575 hr, if_pos rfl, w8]
theorem lw_8 {CR : Nat → MI → MI → Prop} (hr : px_hr r) (n d : Nat) (i l : MI) (x3 : Int) (hn : n < 600) (hc : CR n i l) (hL : L ≤ 4098) (h0 : 2 ≤ x3) (h1 : x3 + 8 ≤ L) (hk : px_and (i 0 x3) 31 = 8) (hs : ∀ x, px_r32 (i 0 x)) (H : ty_ok CR 9 180 []) : ∃ i2 l2 : MI, CR (n + 1) i2 l2 ∧ i2 0 = i 0 ∧ px_X (d + 40 + 1) 243 (38, [vR 0, vR 3, vR 123, vI x3], []) (px_sh L, i, l, r, t) = px_X (d + 40 + 1) 243 (38, [vR 0, vR 3, vR 123, vI (x3 + 8)], []) (px_sh L, i2, l2, r, t) := by
  obtain ⟨v, i1, l1, i2, l2, e1, e2, e3, e4, e5⟩ := H L t r hr n d i l hn hc
  refine ⟨i2, l2, e3, e5, ?_⟩
  have w1 : px_w32 (x3 + 1) = x3 + 1 := ty_w (by omega)
  have w2 : px_w32 (x3 + 2) = x3 + 2 := ty_w (by omega)
  have w3 : px_w32 (x3 + 3) = x3 + 3 := ty_w (by omega)
  have w4 : px_w32 (x3 + 4) = x3 + 4 := ty_w (by omega)
  have w5 : px_w32 (x3 + 5) = x3 + 5 := ty_w (by omega)
  have w6 : px_w32 (x3 + 6) = x3 + 6 := ty_w (by omega)
  have w7 : px_w32 (x3 + 7) = x3 + 7 := ty_w (by omega)
  have w8 : px_w32 (x3 + 8) = x3 + 8 := ty_w (by omega)
  have wL : px_w32 ((L : Int) - 8) = (L : Int) - 8 := ty_w (by omega)
  rw [lw_38 hr (d + 40) i l x3 hL h0 (by omega), if_neg (by omega), if_neg (by omega), if_neg (by omega), if_neg (by omega), if_neg (by omega), if_neg (by omega), if_neg (by omega), if_neg (by omega), if_neg (by omega), if_pos hk, e1, Option.bind_some, px_psh_some, b243_584 hr (d + 40) i1 l1 x3 v, e2, Option.bind_some, px_psh_some, b243_588 hr, if_pos rfl, w8]
theorem lw_9 {CR : Nat → MI → MI → Prop} (hr : px_hr r) (n d : Nat) (i l : MI) (x3 : Int) (hn : n < 600) (hc : CR n i l) (hL : L ≤ 4098) (h0 : 2 ≤ x3) (h1 : x3 + 8 ≤ L) (hk : px_and (i 0 x3) 31 = 9) (hs : ∀ x, px_r32 (i 0 x)) (H : ∀ a1 : Int, px_r32 a1 → ty_ok CR 10 182 [vI a1]) : ∃ i2 l2 : MI, CR (n + 1) i2 l2 ∧ i2 0 = i 0 ∧ px_X (d + 40 + 1) 243 (38, [vR 0, vR 3, vR 123, vI x3], []) (px_sh L, i, l, r, t) = px_X (d + 40 + 1) 243 (38, [vR 0, vR 3, vR 123, vI (x3 + 8)], []) (px_sh L, i2, l2, r, t) := by
  obtain ⟨v, i1, l1, i2, l2, e1, e2, e3, e4, e5⟩ := H _ (hs (x3 + 1)) L t r hr n d i l hn hc
  refine ⟨i2, l2, e3, e5, ?_⟩
  have w1 : px_w32 (x3 + 1) = x3 + 1 := ty_w (by omega)
  have w2 : px_w32 (x3 + 2) = x3 + 2 := ty_w (by omega)
  have w3 : px_w32 (x3 + 3) = x3 + 3 := ty_w (by omega)
  have w4 : px_w32 (x3 + 4) = x3 + 4 := ty_w (by omega)
  have w5 : px_w32 (x3 + 5) = x3 + 5 := ty_w (by omega)
  have w6 : px_w32 (x3 + 6) = x3 + 6 := ty_w (by omega)
  have w7 : px_w32 (x3 + 7) = x3 + 7 := ty_w (by omega)
  have w8 : px_w32 (x3 + 8) = x3 + 8 := ty_w (by omega)
  have wL : px_w32 ((L : Int) - 8) = (L : Int) - 8 := ty_w (by omega)
  rw [lw_38 hr (d + 40) i l x3 hL h0 (by omega), if_neg (by omega), if_neg (by omega), if_neg (by omega), if_neg (by omega), if_neg (by omega), if_neg (by omega), if_neg (by omega), if_neg (by omega), if_neg (by omega), if_neg (by omega), if_pos hk, e1, Option.bind_some, px_psh_some, b243_602 hr (d + 40) i1 l1 x3 v (by omega), w1, e4, e2, Option.bind_some, px_psh_some, b243_611 hr, if_pos rfl, w8]
theorem lw_10 {CR : Nat → MI → MI → Prop} (hr : px_hr r) (n d : Nat) (i l : MI) (x3 : Int) (hn : n < 600) (hc : CR n i l) (hL : L ≤ 4098) (h0 : 2 ≤ x3) (h1 : x3 + 8 ≤ L) (hk : px_and (i 0 x3) 31 = 10) (hs : ∀ x, px_r32 (i 0 x)) (H : ∀ a1 : Int, px_r32 a1 → ty_ok CR 11 186 [vI a1]) : ∃ i2 l2 : MI, CR (n + 1) i2 l2 ∧ i2 0 = i 0 ∧ px_X (d + 40 + 1) 243 (38, [vR 0, vR 3, vR 123, vI x3], []) (px_sh L, i, l, r, t) = px_X (d + 40 + 1) 243 (38, [vR 0, vR 3, vR 123, vI (x3 + 8)], []) (px_sh L, i2, l2, r, t) := by
  obtain ⟨v, i1, l1, i2, l2, e1, e2, e3, e4, e5⟩ := H _ (hs (x3 + 1)) L t r hr n d i l hn hc
  refine ⟨i2, l2, e3, e5, ?_⟩
  have w1 : px_w32 (x3 + 1) = x3 + 1 := ty_w (by omega)
  have w2 : px_w32 (x3 + 2) = x3 + 2 := ty_w (by omega)
  have w3 : px_w32 (x3 + 3) = x3 + 3 := ty_w (by omega)
  have w4 : px_w32 (x3 + 4) = x3 + 4 := ty_w (by omega)
  have w5 : px_w32 (x3 + 5) = x3 + 5 := ty_w (by omega)
  have w6 : px_w32 (x3 + 6) = x3 + 6 := ty_w (by omega)
  have w7 : px_w32 (x3 + 7) = x3 + 7 := ty_w (by omega)
  have w8 : px_w32 (x3 + 8) = x3 + 8 := ty_w (by omega)
  have wL : px_w32 ((L : Int) - 8) = (L : Int) - 8 := ty_w (by omega)
  rw [lw_38 hr (d + 40) i l x3 hL h0 (by omega), if_neg (by omega), if_neg (by omega), if_neg (by omega), if_neg (by omega), if_neg (by omega), if_neg (by omega), if_neg (by omega), if_neg (by omega), if_neg (by omega), if_neg (by omega), if_neg (by omega), if_pos hk, e1, Option.bind_some, px_psh_some, b243_625 hr (d + 40) i1 l1 x3 v (by omega), w1, e4, e2, Option.bind_some, px_psh_some, b243_634 hr, if_pos rfl, w8]
theorem lw_11 {CR : Nat → MI → MI → Prop} (hr : px_hr r) (n d : Nat) (i l : MI) (x3 : Int) (hn : n < 600) (hc : CR n i l) (hL : L ≤ 4098) (h0 : 2 ≤ x3) (h1 : x3 + 8 ≤ L) (hk : px_and (i 0 x3) 31 = 11) (hs : ∀ x, px_r32 (i 0 x)) (H : ∀ a1 : Int, px_r32 a1 → ty_ok CR 12 193 [vI a1]) : ∃ i2 l2 : MI, CR (n + 1) i2 l2 ∧ i2 0 = i 0 ∧ px_X (d + 40 + 1) 243 (38, [vR 0, vR 3, vR 123, vI x3], []) (px_sh L, i, l, r, t) = px_X (d + 40 + 1) 243 (38, [vR 0, vR 3, vR 123, vI (x3 + 8)], []) (px_sh L, i2, l2, r, t) := by
  obtain ⟨v, i1, l1, i2, l2, e1, e2, e3, e4, e5⟩ := H _ (hs (x3 + 1)) L t r hr n d i l hn hc
  refine ⟨i2, l2, e3, e5, ?_⟩
  have w1 : px_w32 (x3 + 1) = x3 + 1 := ty_w (by omega)
  have w2 : px_w32 (x3 + 2) = x3 + 2 := ty_w (by omega)
  have w3 : px_w32 (x3 + 3) = x3 + 3 := ty_w (by omega)
  have w4 : px_w32 (x3 + 4) = x3 + 4 := ty_w (by omega)
  have w5 : px_w32 (x3 + 5) = x3 + 5 := ty_w (by omega)
  have w6 : px_w32 (x3 + 6) = x3 + 6 := ty_w (by omega)
  have w7 : px_w32 (x3 + 7) = x3 + 7 := ty_w (by omega)
  have w8 : px_w32 (x3 + 8) = x3 + 8 := ty_w (by omega)
  have wL : px_w32 ((L : Int) - 8) = (L : Int) - 8 := ty_w (by omega)
  rw [lw_38 hr (d + 40) i l x3 hL h0 (by omega), if_neg (by omega), if_neg (by omega), if_neg (by omega), if_neg (by omega), if_neg (by omega), if_neg (by omega), if_neg (by omega), if_neg (by omega), if_neg (by omega), if_neg (by omega), if_neg (by omega), if_neg (by omega), if_pos hk, e1, Option.bind_some, px_psh_some, b243_648 hr (d + 40) i1 l1 x3 v (by omega), w1, e4, e2, Option.bind_some, px_psh_some, b243_657 hr, if_pos rfl, w8]
theorem lw_12 {CR : Nat → MI → MI → Prop} (hr : px_hr r) (n d : Nat) (i l : MI) (x3 : Int) (hn : n < 600) (hc : CR n i l) (hL : L ≤ 4098) (h0 : 2 ≤ x3) (h1 : x3 + 8 ≤ L) (hk : px_and (i 0 x3) 31 = 12) (hs : ∀ x, px_r32 (i 0 x)) (H : ∀ a1 : Int, px_r32 a1 → ∀ a2 : Int, px_r32 a2 → ty_ok CR 13 199 [vI a1, vI a2]) : ∃ i2 l2 : MI, CR (n + 1) i2 l2 ∧ i2 0 = i 0 ∧ px_X (d + 40 + 1) 243 (38, [vR 0, vR 3, vR 123, vI x3], []) (px_sh L, i, l, r, t) = px_X (d + 40 + 1) 243 (38, [vR 0, vR 3, vR 123, vI (x3 + 8)], []) (px_sh L, i2, l2, r, t) := by
  obtain ⟨v, i1, l1, i2, l2, e1, e2, e3, e4, e5⟩ := H _ (hs (x3 + 1)) _ (hs (x3 + 2)) L t r hr n d i l hn hc
  refine ⟨i2, l2, e3, e5, ?_⟩
  have w1 : px_w32 (x3 + 1) = x3 + 1 := ty_w (by omega)
  have w2 : px_w32 (x3 + 2) = x3 + 2 := ty_w (by omega)
  have w3 : px_w32 (x3 + 3) = x3 + 3 := ty_w (by omega)
  have w4 : px_w32 (x3 + 4) = x3 + 4 := ty_w (by omega)
  have w5 : px_w32 (x3 + 5) = x3 + 5 := ty_w (by omega)
  have w6 : px_w32 (x3 + 6) = x3 + 6 := ty_w (by omega)
  have w7 : px_w32 (x3 + 7) = x3 + 7 := ty_w (by omega)
  have w8 : px_w32 (x3 + 8) = x3 + 8 := ty_w (by omega)
  have wL : px_w32 ((L : Int) - 8) = (L : Int) - 8 := ty_w (by omega)
  rw [lw_38 hr (d + 40) i l x3 hL h0 (by omega), if_neg (by omega), if_neg (by omega), if_neg (by omega), if_neg (by omega), if_neg (by omega), if_neg (by omega), if_neg (by omega), if_neg (by omega), if_neg (by omega), if_neg (by omega), if_neg (by omega), if_neg (by omega), if_neg (by omega), if_pos hk, e1, Option.bind_some, px_psh_some, b243_676 hr (d + 40) i1 l1 x3 v (by omega) (by omega), w1, w2, e4, e2, Option.bind_some, px_psh_some, b243_690 hr, if_pos rfl, w8]
theorem lw_13 {CR : Nat → MI → MI → Prop} (hr : px_hr r) (n d : Nat) (i l : MI) (x3 : Int) (hn : n < 600) (hc : CR n i l) (hL : L ≤ 4098) (h0 : 2 ≤ x3) (h1 : x3 + 8 ≤ L) (hk : px_and (i 0 x3) 31 = 13) (hs : ∀ x, px_r32 (i 0 x)) (H : ∀ a1 : Int, px_r32 a1 → ∀ a2 : Int, px_r32 a2 → ∀ a3 : Int, px_r32 a3 → ty_ok CR 14 203 [vI a1, vI a2, vI a3]) : ∃ i2 l2 : MI, CR (n + 1) i2 l2 ∧ i2 0 = i 0 ∧ px_X (d + 40 + 1) 243 (38, [vR 0, vR 3, vR 123, vI x3], []) (px_sh L, i, l, r, t) = px_X (d + 40 + 1) 243 (38, [vR 0, vR 3, vR 123, vI (x3 + 8)], []) (px_sh L, i2, l2, r, t) := by
  obtain ⟨v, i1, l1, i2, l2, e1, e2, e3, e4, e5⟩ := H _ (hs (x3 + 1)) _ (hs (x3 + 2)) _ (hs (x3 + 3)) L t r hr n d i l hn hc
  refine ⟨i2, l2, e3, e5, ?_⟩
  have w1 : px_w32 (x3 + 1) = x3 + 1 := ty_w (by omega)
  have w2 : px_w32 (x3 + 2) = x3 + 2 := ty_w (by omega)
  have w3 : px_w32 (x3 + 3) = x3 + 3 := ty_w (by omega)
  have w4 : px_w32 (x3 + 4) = x3 + 4 := ty_w (by omega)
  have w5 : px_w32 (x3 + 5) = x3 + 5 := ty_w (by omega)
  have w6 : px_w32 (x3 + 6) = x3 + 6 := ty_w (by omega)
  have w7 : px_w32 (x3 + 7) = x3 + 7 := ty_w (by omega)
  have w8 : px_w32 (x3 + 8) = x3 + 8 := ty_w (by omega)
  have wL : px_w32 ((L : Int) - 8) = (L : Int) - 8 := ty_w (by omega)
  rw [lw_38 hr (d + 40) i l x3 hL h0 (by omega), if_neg (by omega), if_neg (by omega), if_neg (by omega), if_neg (by omega), if_neg (by omega), if_neg (by omega), if_neg (by omega), if_neg (by omega), if_neg (by omega), if_neg (by omega), if_neg (by omega), if_neg (by omega), if_neg (by omega), if_neg (by omega), if_pos hk, e1, Option.bind_some, px_psh_some, b243_714 hr (d + 40) i1 l1 x3 v (by omega) (by omega) (by omega), w1, w2, w3, e4, e2, Option.bind_some, px_psh_some, b243_733 hr, if_pos rfl, w8]
theorem lw_14 {CR : Nat → MI → MI → Prop} (hr : px_hr r) (n d : Nat) (i l : MI) (x3 : Int) (hn : n < 600) (hc : CR n i l) (hL : L ≤ 4098) (h0 : 2 ≤ x3) (h1 : x3 + 8 ≤ L) (hk : px_and (i 0 x3) 31 = 14) (hs : ∀ x, px_r32 (i 0 x)) (H : ∀ a1 : Int, px_r32 a1 → ∀ a2 : Int, px_r32 a2 → ty_ok CR 15 205 [vI a1, vI a2]) : ∃ i2 l2 : MI, CR (n + 1) i2 l2 ∧ i2 0 = i 0 ∧ px_X (d + 40 + 1) 243 (38, [vR 0, vR 3, vR 123, vI x3], []) (px_sh L, i, l, r, t) = px_X (d + 40 + 1) 243 (38, [vR 0, vR 3, vR 123, vI (x3 + 8)], []) (px_sh L, i2, l2, r, t) := by
  obtain ⟨v, i1, l1, i2, l2, e1, e2, e3, e4, e5⟩ := H _ (hs (x3 + 1)) _ (hs (x3 + 2)) L t r hr n d i l hn hc
  refine ⟨i2, l2, e3, e5, ?_⟩
  have w1 : px_w32 (x3 + 1) = x3 + 1 := ty_w (by omega)
  have w2 : px_w32 (x3 + 2) = x3 + 2 := ty_w (by omega)
  have w3 : px_w32 (x3 + 3) = x3 + 3 := ty_w (by omega)
  have w4 : px_w32 (x3 + 4) = x3 + 4 := ty_w (by omega)
  have w5 : px_w32 (x3 + 5) = x3 + 5 := ty_w (by omega)
  have w6 : px_w32 (x3 + 6) = x3 + 6 := ty_w (by omega)
  have w7 : px_w32 (x3 + 7) = x3 + 7 := ty_w (by omega)
  have w8 : px_w32 (x3 + 8) = x3 + 8 := ty_w (by omega)
  have wL : px_w32 ((L : Int) - 8) = (L : Int) - 8 := ty_w (by omega)
  rw [lw_38 hr (d + 40) i l x3 hL h0 (by omega), if_neg (by omega), if_neg (by omega), if_neg (by omega), if_neg (by omega), if_neg (by omega), if_neg (by omega), if_neg (by omega), if_neg (by omega), if_neg (by omega), if_neg (by omega), if_neg (by omega), if_neg (by omega), if_neg (by omega), if_neg (by omega), if_neg (by omega), if_pos hk, e1, Option.bind_some, px_psh_some, b243_752 hr (d + 40) i1 l1 x3 v (by omega) (by omega), w1, w2, e4, e2, Option.bind_some, px_psh_some, b243_766 hr, if_pos rfl, w8]
theorem lw_15 {CR : Nat → MI → MI → Prop} (hr : px_hr r) (n d : Nat) (i l : MI) (x3 : Int) (hn : n < 600) (hc : CR n i l) (hL : L ≤ 4098) (h0 : 2 ≤ x3) (h1 : x3 + 8 ≤ L) (hk : px_and (i 0 x3) 31 = 15) (hs : ∀ x, px_r32 (i 0 x)) (H : ∀ a1 : Int, px_r32 a1 → ∀ a2 : Int, px_r32 a2 → ty_ok CR 16 206 [vI a1, vI a2]) : ∃ i2 l2 : MI, CR (n + 1) i2 l2 ∧ i2 0 = i 0 ∧ px_X (d + 40 + 1) 243 (38, [vR 0, vR 3, vR 123, vI x3], []) (px_sh L, i, l, r, t) = px_X (d + 40 + 1) 243 (38, [vR 0, vR 3, vR 123, vI (x3 + 8)], []) (px_sh L, i2, l2, r, t) := by
  obtain ⟨v, i1, l1, i2, l2, e1, e2, e3, e4, e5⟩ := H _ (hs (x3 + 1)) _ (hs (x3 + 2)) L t r hr n d i l hn hc
  refine ⟨i2, l2, e3, e5, ?_⟩
  have w1 : px_w32 (x3 + 1) = x3 + 1 := ty_w (by omega)
  have w2 : px_w32 (x3 + 2) = x3 + 2 := ty_w (by omega)
  have w3 : px_w32 (x3 + 3) = x3 + 3 := ty_w (by omega)
  have w4 : px_w32 (x3 + 4) = x3 + 4 := ty_w (by omega)
  have w5 : px_w32 (x3 + 5) = x3 + 5 := ty_w (by omega)
  have w6 : px_w32 (x3 + 6) = x3 + 6 := ty_w (by omega)
  have w7 : px_w32 (x3 + 7) = x3 + 7 := ty_w (by omega)
  have w8 : px_w32 (x3 + 8) = x3 + 8 := ty_w (by omega)
  have wL : px_w32 ((L : Int) - 8) = (L : Int) - 8 := ty_w (by omega)
  rw [lw_38 hr (d + 40) i l x3 hL h0 (by omega), if_neg (by omega), if_neg (by omega), if_neg (by omega), if_neg (by omega), if_neg (by omega), if_neg (by omega), if_neg (by omega), if_neg (by omega), if_neg (by omega), if_neg (by omega), if_neg (by omega), if_neg (by omega), if_neg (by omega), if_neg (by omega), if_neg (by omega), if_neg (by omega), if_pos hk, e1, Option.bind_some, px_psh_some, b243_785 hr (d + 40) i1 l1 x3 v (by omega) (by omega), w1, w2, e4, e2, Option.bind_some, px_psh_some, b243_799 hr, if_pos rfl, w8]
theorem lw_16 {CR : Nat → MI → MI → Prop} (hr : px_hr r) (n d : Nat) (i l : MI) (x3 : Int) (hn : n < 600) (hc : CR n i l) (hL : L ≤ 4098) (h0 : 2 ≤ x3) (h1 : x3 + 8 ≤ L) (hk : px_and (i 0 x3) 31 = 16) (hs : ∀ x, px_r32 (i 0 x)) (H : ∀ a1 : Int, px_r32 a1 → ∀ a2 : Int, px_r32 a2 → ∀ a3 : Int, px_r32 a3 → ty_ok CR 17 213 [vI a1, vI a2, vI a3]) : ∃ i2 l2 : MI, CR (n + 1) i2 l2 ∧ i2 0 = i 0 ∧ px_X (d + 40 + 1) 243 (38, [vR 0, vR 3, vR 123, vI x3], []) (px_sh L, i, l, r, t) = px_X (d + 40 + 1) 243 (38, [vR 0, vR 3, vR 123, vI (x3 + 8)], []) (px_sh L, i2, l2, r, t) := by
  obtain ⟨v, i1, l1, i2, l2, e1, e2, e3, e4, e5⟩ := H _ (hs (x3 + 1)) _ (hs (x3 + 2)) _ (hs (x3 + 3)) L t r hr n d i l hn hc
  refine ⟨i2, l2, e3, e5, ?_⟩
  have w1 : px_w32 (x3 + 1) = x3 + 1 := ty_w (by omega)
  have w2 : px_w32 (x3 + 2) = x3 + 2 := ty_w (by omega)
  have w3 : px_w32 (x3 + 3) = x3 + 3 := ty_w (by omega)
  have w4 : px_w32 (x3 + 4) = x3 + 4 := ty_w (by omega)
  have w5 : px_w32 (x3 + 5) = x3 + 5 := ty_w (by omega)
  have w6 : px_w32 (x3 + 6) = x3 + 6 := ty_w (by omega)
  have w7 : px_w32 (x3 + 7) = x3 + 7 := ty_w (by omega)
  have w8 : px_w32 (x3 + 8) = x3 + 8 := ty_w (by omega)
  have wL : px_w32 ((L : Int) - 8) = (L : Int) - 8 := ty_w (by omega)
  rw [lw_38 hr (d + 40) i l x3 hL h0 (by omega), if_neg (by omega), if_neg (by omega), if_neg (by omega), if_neg (by omega), if_neg (by omega), if_neg (by omega), if_neg (by omega), if_neg (by omega), if_neg (by omega), if_neg (by omega), if_neg (by omega), if_neg (by omega), if_neg (by omega), if_neg (by omega), if_neg (by omega), if_neg (by omega), if_neg (by omega), if_pos hk, e1, Option.bind_some, px_psh_some, b243_823 hr (d + 40) i1 l1 x3 v (by omega) (by omega) (by omega), w1, w2, w3, e4, e2, Option.bind_some, px_psh_some, b243_842 hr, if_pos rfl, w8]
theorem lw_17 {CR : Nat → MI → MI → Prop} (hr : px_hr r) (n d : Nat) (i l : MI) (x3 : Int) (hn : n < 600) (hc : CR n i l) (hL : L ≤ 4098) (h0 : 2 ≤ x3) (h1 : x3 + 8 ≤ L) (hk : px_and (i 0 x3) 31 = 17) (hs : ∀ x, px_r32 (i 0 x)) (H : ∀ a1 : Int, px_r32 a1 → ty_ok CR 18 214 [vI a1]) : ∃ i2 l2 : MI, CR (n + 1) i2 l2 ∧ i2 0 = i 0 ∧ px_X (d + 40 + 1) 243 (38, [vR 0, vR 3, vR 123, vI x3], []) (px_sh L, i, l, r, t) = px_X (d + 40 + 1) 243 (38, [vR 0, vR 3, vR 123, vI (x3 + 8)], []) (px_sh L, i2, l2, r, t) := by
  obtain ⟨v, i1, l1, i2, l2, e1, e2, e3, e4, e5⟩ := H _ (hs (x3 + 1)) L t r hr n d i l hn hc
  refine ⟨i2, l2, e3, e5, ?_⟩
  have w1 : px_w32 (x3 + 1) = x3 + 1 := ty_w (by omega)
  have w2 : px_w32 (x3 + 2) = x3 + 2 := ty_w (by omega)
  have w3 : px_w32 (x3 + 3) = x3 + 3 := ty_w (by omega)
  have w4 : px_w32 (x3 + 4) = x3 + 4 := ty_w (by omega)
  have w5 : px_w32 (x3 + 5) = x3 + 5 := ty_w (by omega)
  have w6 : px_w32 (x3 + 6) = x3 + 6 := ty_w (by omega)
  have w7 : px_w32 (x3 + 7) = x3 + 7 := ty_w (by omega)
  have w8 : px_w32 (x3 + 8) = x3 + 8 := ty_w (by omega)
  have wL : px_w32 ((L : Int) - 8) = (L : Int) - 8 := ty_w (by omega)
  rw [lw_38 hr (d + 40) i l x3 hL h0 (by omega), if_neg (by omega), if_neg (by omega), if_neg (by omega), if_neg (by omega), if_neg (by omega), if_neg (by omega), if_neg (by omega), if_neg (by omega), if_neg (by omega), if_neg (by omega), if_neg (by omega), if_neg (by omega), if_neg (by omega), if_neg (by omega), if_neg (by omega), if_neg (by omega), if_neg (by omega), if_neg (by omega), if_pos hk, e1, Option.bind_some, px_psh_some, b243_856 hr (d + 40) i1 l1 x3 v (by omega), w1, e4, e2, Option.bind_some, px_psh_some, b243_865 hr, if_pos rfl, w8]
theorem lw_18 {CR : Nat → MI → MI → Prop} (hr : px_hr r) (n d : Nat) (i l : MI) (x3 : Int) (hn : n < 600) (hc : CR n i l) (hL : L ≤ 4098) (h0 : 2 ≤ x3) (h1 : x3 + 8 ≤ L) (hk : px_and (i 0 x3) 31 = 18) (hs : ∀ x, px_r32 (i 0 x)) (H : ∀ a1 : Int, px_r32 a1 → ∀ a2 : Int, px_r32 a2 → ∀ a3 : Int, px_r32 a3 → ∀ a4 : Int, px_r32 a4 → ty_ok CR 19 218 [vI a1, vI a2, vI a3, vI a4]) : ∃ i2 l2 : MI, CR (n + 1) i2 l2 ∧ i2 0 = i 0 ∧ px_X (d + 40 + 1) 243 (38, [vR 0, vR 3, vR 123, vI x3], []) (px_sh L, i, l, r, t) = px_X (d + 40 + 1) 243 (38, [vR 0, vR 3, vR 123, vI (x3 + 8)], []) (px_sh L, i2, l2, r, t) := by
  obtain ⟨v, i1, l1, i2, l2, e1, e2, e3, e4, e5⟩ := H _ (hs (x3 + 1)) _ (hs (x3 + 2)) _ (hs (x3 + 3)) _ (hs (x3 + 4)) L t r hr n d i l hn hc
  refine ⟨i2, l2, e3, e5, ?_⟩
  have w1 : px_w32 (x3 + 1) = x3 + 1 := ty_w (by omega)
  have w2 : px_w32 (x3 + 2) = x3 + 2 := ty_w (by omega)
  have w3 : px_w32 (x3 + 3) = x3 + 3 := ty_w (by omega)
  have w4 : px_w32 (x3 + 4) = x3 + 4 := ty_w (by omega)
  have w5 : px_w32 (x3 + 5) = x3 + 5 := ty_w (by omega)
  have w6 : px_w32 (x3 + 6) = x3 + 6 := ty_w (by omega)
  have w7 : px_w32 (x3 + 7) = x3 + 7 := ty_w (by omega)
  have w8 : px_w32 (x3 + 8) = x3 + 8 := ty_w (by omega)
  have wL : px_w32 ((L : Int) - 8) = (L : Int) - 8 := ty_w (by omega)
  rw [lw_38 hr (d + 40) i l x3 hL h0 (by omega), if_neg (by omega), if_neg (by omega), if_neg (by omega), if_neg (by omega), if_neg (by omega), if_neg (by omega), if_neg (by omega), if_neg (by omega), if_neg (by omega), if_neg (by omega), if_neg (by omega), if_neg (by omega), if_neg (by omega), if_neg (by omega), if_neg (by omega), if_neg (by omega), if_neg (by omega), if_neg (by omega), if_neg (by omega), if_pos hk, e1, Option.bind_some, px_psh_some, b243_894 hr (d + 40) i1 l1 x3 v (by omega) (by omega) (by omega) (by omega), w1, w2, w3, w4, e4, e2, Option.bind_some, px_psh_some, b243_918 hr, if_pos rfl, w8]
theorem lw_19 {CR : Nat → MI → MI → Prop} (hr : px_hr r) (n d : Nat) (i l : MI) (x3 : Int) (hn : n < 600) (hc : CR n i l) (hL : L ≤ 4098) (h0 : 2 ≤ x3) (h1 : x3 + 8 ≤ L) (hk : px_and (i 0 x3) 31 = 19) (hs : ∀ x, px_r32 (i 0 x)) (H : ∀ a1 : Int, px_r32 a1 → ∀ a2 : Int, px_r32 a2 → ty_ok CR 20 221 [vI a1, vI a2]) : ∃ i2 l2 : MI, CR (n + 1) i2 l2 ∧ i2 0 = i 0 ∧ px_X (d + 40 + 1) 243 (38, [vR 0, vR 3, vR 123, vI x3], []) (px_sh L, i, l, r, t) = px_X (d + 40 + 1) 243 (38, [vR 0, vR 3, vR 123, vI (x3 + 8)], []) (px_sh L, i2, l2, r, t) := by
  obtain ⟨v, i1, l1, i2, l2, e1, e2, e3, e4, e5⟩ := H _ (hs (x3 + 1)) _ (hs (x3 + 2)) L t r hr n d i l hn hc
  refine ⟨i2, l2, e3, e5, ?_⟩
  have w1 : px_w32 (x3 + 1) = x3 + 1 := ty_w (by omega)
  have w2 : px_w32 (x3 + 2) = x3 + 2 := ty_w (by omega)
  have w3 : px_w32 (x3 + 3) = x3 + 3 := ty_w (by omega)
  have w4 : px_w32 (x3 + 4) = x3 + 4 := ty_w (by omega)
  have w5 : px_w32 (x3 + 5) = x3 + 5 := ty_w (by omega)
  have w6 : px_w32 (x3 + 6) = x3 + 6 := ty_w (by omega)
  have w7 : px_w32 (x3 + 7) = x3 + 7 := ty_w (by omega)
  have w8 : px_w32 (x3 + 8) = x3 + 8 := ty_w (by omega)
  have wL : px_w32 ((L : Int) - 8) = (L : Int) - 8 := ty_w (by omega)
  rw [lw_38 hr (d + 40) i l x3 hL h0 (by omega), if_neg (by omega), if_neg (by omega), if_neg (by omega), if_neg (by omega), if_neg (by omega), if_neg (by omega), if_neg (by omega), if_neg (by omega), if_neg (by omega), if_neg (by omega), if_neg (by omega), if_neg (by omega), if_neg (by omega), if_neg (by omega), if_neg (by omega), if_neg (by omega), if_neg (by omega), if_neg (by omega), if_neg (by omega), if_neg (by omega), if_pos hk, e1, Option.bind_some, px_psh_some, b243_937 hr (d + 40) i1 l1 x3 v (by omega) (by omega), w1, w2, e4, e2, Option.bind_some, px_psh_some, b243_951 hr, if_pos rfl, w8]
theorem lw_20 {CR : Nat → MI → MI → Prop} (hr : px_hr r) (n d : Nat) (i l : MI) (x3 : Int) (hn : n < 600) (hc : CR n i l) (hL : L ≤ 4098) (h0 : 2 ≤ x3) (h1 : x3 + 8 ≤ L) (hk : px_and (i 0 x3) 31 = 20) (hs : ∀ x, px_r32 (i 0 x)) (H : ∀ a1 : Int, px_r32 a1 → ∀ a2 : Int, px_r32 a2 → ty_ok CR 21 224 [vI a1, vI a2]) : ∃ i2 l2 : MI, CR (n + 1) i2 l2 ∧ i2 0 = i 0 ∧ px_X (d + 40 + 1) 243 (38, [vR 0, vR 3, vR 123, vI x3], []) (px_sh L, i, l, r, t) = px_X (d + 40 + 1) 243 (38, [vR 0, vR 3, vR 123, vI (x3 + 8)], []) (px_sh L, i2, l2, r, t) := by
  obtain ⟨v, i1, l1, i2, l2, e1, e2, e3, e4, e5⟩ := H _ (hs (x3 + 1)) _ (hs (x3 + 2)) L t r hr n d i l hn hc
  refine ⟨i2, l2, e3, e5, ?_⟩
  have w1 : px_w32 (x3 + 1) = x3 + 1 := ty_w (by omega)
  have w2 : px_w32 (x3 + 2) = x3 + 2 := ty_w (by omega)
  have w3 : px_w32 (x3 + 3) = x3 + 3 := ty_w (by omega)
  have w4 : px_w32 (x3 + 4) = x3 + 4 := ty_w (by omega)
  have w5 : px_w32 (x3 + 5) = x3 + 5 := ty_w (by omega)
  have w6 : px_w32 (x3 + 6) = x3 + 6 := ty_w (by omega)
  have w7 : px_w32 (x3 + 7) = x3 + 7 := ty_w (by omega)
  have w8 : px_w32 (x3 + 8) = x3 + 8 := ty_w (by omega)
  have wL : px_w32 ((L : Int) - 8) = (L : Int) - 8 := ty_w (by omega)
  rw [lw_38 hr (d + 40) i l x3 hL h0 (by omega), if_neg (by omega), if_neg (by omega), if_neg (by omega), if_neg (by omega), if_neg (by omega), if_neg (by omega), if_neg (by omega), if_neg (by omega), if_neg (by omega), if_neg (by omega), if_neg (by omega), if_neg (by omega), if_neg (by omega), if_neg (by omega), if_neg (by omega), if_neg (by omega), if_neg (by omega), if_neg (by omega), if_neg (by omega), if_neg (by omega), if_neg (by omega), if_pos hk, e1, Option.bind_some, px_psh_some, b243_970 hr (d + 40) i1 l1 x3 v (by omega) (by omega), w1, w2, e4, e2, Option.bind_some, px_psh_some, b243_984 hr, if_pos rfl, w8]
theorem lw_21 {CR : Nat → MI → MI → Prop} (hr : px_hr r) (n d : Nat) (i l : MI) (x3 : Int) (hn : n < 600) (hc : CR n i l) (hL : L ≤ 4098) (h0 : 2 ≤ x3) (h1 : x3 + 8 ≤ L) (hk : px_and (i 0 x3) 31 = 21) (hs : ∀ x, px_r32 (i 0 x)) (H : ∀ a1 : Int, px_r32 a1 → ty_ok CR 22 225 [vI a1]) : ∃ i2 l2 : MI, CR (n + 1) i2 l2 ∧ i2 0 = i 0 ∧ px_X (d + 40 + 1) 243 (38, [vR 0, vR 3, vR 123, vI x3], []) (px_sh L, i, l, r, t) = px_X (d + 40 + 1) 243 (38, [vR 0, vR 3, vR 123, vI (x3 + 8)], []) (px_sh L, i2, l2, r, t) := by
  obtain ⟨v, i1, l1, i2, l2, e1, e2, e3, e4, e5⟩ := H _ (hs (x3 + 1)) L t r hr n d i l hn hc
  refine ⟨i2, l2, e3, e5, ?_⟩
  have w1 : px_w32 (x3 + 1) = x3 + 1 := ty_w (by omega)
  have w2 : px_w32 (x3 + 2) = x3 + 2 := ty_w (by omega)
  have w3 : px_w32 (x3 + 3) = x3 + 3 := ty_w (by omega)
  have w4 : px_w32 (x3 + 4) = x3 + 4 := ty_w (by omega)
  have w5 : px_w32 (x3 + 5) = x3 + 5 := ty_w (by omega)
  have w6 : px_w32 (x3 + 6) = x3 + 6 := ty_w (by omega)
  have w7 : px_w32 (x3 + 7) = x3 + 7 := ty_w (by omega)
  have w8 : px_w32 (x3 + 8) = x3 + 8 := ty_w (by omega)
  have wL : px_w32 ((L : Int) - 8) = (L : Int) - 8 := ty_w (by omega)
  rw [lw_38 hr (d + 40) i l x3 hL h0 (by omega), if_neg (by omega), if_neg (by omega), if_neg (by omega), if_neg (by omega), if_neg (by omega), if_neg (by omega), if_neg (by omega), if_neg (by omega), if_neg (by omega), if_neg (by omega), if_neg (by omega), if_neg (by omega), if_neg (by omega), if_neg (by omega), if_neg (by omega), if_neg (by omega), if_neg (by omega), if_neg (by omega), if_neg (by omega), if_neg (by omega), if_neg (by omega), if_neg (by omega), if_pos hk, e1, Option.bind_some, px_psh_some, b243_998 hr (d + 40) i1 l1 x3 v (by omega), w1, e4, e2, Option.bind_some, px_psh_some, b243_1007 hr, if_pos rfl, w8]
theorem lw_22 {CR : Nat → MI → MI → Prop} (hr : px_hr r) (n d : Nat) (i l : MI) (x3 : Int) (hn : n < 600) (hc : CR n i l) (hL : L ≤ 4098) (h0 : 2 ≤ x3) (h1 : x3 + 8 ≤ L) (hk : px_and (i 0 x3) 31 = 22) (hs : ∀ x, px_r32 (i 0 x)) (H : ty_ok CR 23 227 []) : ∃ i2 l2 : MI, CR (n + 1) i2 l2 ∧ i2 0 = i 0 ∧ px_X (d + 40 + 1) 243 (38, [vR 0, vR 3, vR 123, vI x3], []) (px_sh L, i, l, r, t) = px_X (d + 40 + 1) 243 (38, [vR 0, vR 3, vR 123, vI (x3 + 8)], []) (px_sh L, i2, l2, r, t) := by
  obtain ⟨v, i1, l1, i2, l2, e1, e2, e3, e4, e5⟩ := H L t r hr n d i l hn hc
  refine ⟨i2, l2, e3, e5, ?_⟩
  have w1 : px_w32 (x3 + 1) = x3 + 1 := ty_w (by omega)
  have w2 : px_w32 (x3 + 2) = x3 + 2 := ty_w (by omega)
  have w3 : px_w32 (x3 + 3) = x3 + 3 := ty_w (by omega)
  have w4 : px_w32 (x3 + 4) = x3 + 4 := ty_w (by omega)
  have w5 : px_w32 (x3 + 5) = x3 + 5 := ty_w (by omega)
  have w6 : px_w32 (x3 + 6) = x3 + 6 := ty_w (by omega)
  have w7 : px_w32 (x3 + 7) = x3 + 7 := ty_w (by omega)
  have w8 : px_w32 (x3 + 8) = x3 + 8 := ty_w (by omega)
  have wL : px_w32 ((L : Int) - 8) = (L : Int) - 8 := ty_w (by omega)
  rw [lw_38 hr (d + 40) i l x3 hL h0 (by omega), if_neg (by omega), if_neg (by omega), if_neg (by omega), if_neg (by omega), if_neg (by omega), if_neg (by omega), if_neg (by omega), if_neg (by omega), if_neg (by omega), if_neg (by omega), if_neg (by omega), if_neg (by omega), if_neg (by omega), if_neg (by omega), if_neg (by omega), if_neg (by omega), if_neg (by omega), if_neg (by omega), if_neg (by omega), if_neg (by omega), if_neg (by omega), if_neg (by omega), if_neg (by omega), if_pos hk, e1, Option.bind_some, px_psh_some, b243_1016 hr (d + 40) i1 l1 x3 v, e2, Option.bind_some, px_psh_some, b243_1020 hr, if_pos rfl, w8]
theorem lw_23 {CR : Nat → MI → MI → Prop} (hr : px_hr r) (n d : Nat) (i l : MI) (x3 : Int) (hn : n < 600) (hc : CR n i l) (hL : L ≤ 4098) (h0 : 2 ≤ x3) (h1 : x3 + 8 ≤ L) (hk : px_and (i 0 x3) 31 = 23) (hs : ∀ x, px_r32 (i 0 x)) (H : ∀ a1 : Int, px_r32 a1 → ∀ a2 : Int, px_r32 a2 → ∀ a3 : Int, px_r32 a3 → ty_ok CR 24 228 [vI a1, vI a2, vI a3]) : ∃ i2 l2 : MI, CR (n + 1) i2 l2 ∧ i2 0 = i 0 ∧ px_X (d + 40 + 1) 243 (38, [vR 0, vR 3, vR 123, vI x3], []) (px_sh L, i, l, r, t) = px_X (d + 40 + 1) 243 (38, [vR 0, vR 3, vR 123, vI (x3 + 8)], []) (px_sh L, i2, l2, r, t) := by
  obtain ⟨v, i1, l1, i2, l2, e1, e2, e3, e4, e5⟩ := H _ (hs (x3 + 1)) _ (hs (x3 + 2)) _ (hs (x3 + 3)) L t r hr n d i l hn hc
  refine ⟨i2, l2, e3, e5, ?_⟩
  have w1 : px_w32 (x3 + 1) = x3 + 1 := ty_w (by omega)
  have w2 : px_w32 (x3 + 2) = x3 + 2 := ty_w (by omega)
  have w3 : px_w32 (x3 + 3) = x3 + 3 := ty_w (by omega)
  have w4 : px_w32 (x3 + 4) = x3 + 4 := ty_w (by omega)
  have w5 : px_w32 (x3 + 5) = x3 + 5 := ty_w (by omega)
  have w6 : px_w32 (x3 + 6) = x3 + 6 := ty_w (by omega)
  have w7 : px_w32 (x3 + 7) = x3 + 7 := ty_w (by omega)
  have w8 : px_w32 (x3 + 8) = x3 + 8 := ty_w (by omega)
  have wL : px_w32 ((L : Int) - 8) = (L : Int) - 8 := ty_w (by omega)
  rw [lw_38 hr (d + 40) i l x3 hL h0 (by omega), if_neg (by omega), if_neg (by omega), if_neg (by omega), if_neg (by omega), if_neg (by omega), if_neg (by omega), if_neg (by omega), if_neg (by omega), if_neg (by omega), if_neg (by omega), if_neg (by omega), if_neg (by omega), if_neg (by omega), if_neg (by omega), if_neg (by omega), if_neg (by omega), if_neg (by omega), if_neg (by omega), if_neg (by omega), if_neg (by omega), if_neg (by omega), if_neg (by omega), if_neg (by omega), if_neg (by omega), if_pos hk, e1, Option.bind_some, px_psh_some, b243_1044 hr (d + 40) i1 l1 x3 v (by omega) (by omega) (by omega), w1, w2, w3, e4, e2, Option.bind_some, px_psh_some, b243_1063 hr, if_pos rfl, w8]
theorem lw_24 {CR : Nat → MI → MI → Prop} (hr : px_hr r) (n d : Nat) (i l : MI) (x3 : Int) (hn : n < 600) (hc : CR n i l) (hL : L ≤ 4098) (h0 : 2 ≤ x3) (h1 : x3 + 8 ≤ L) (hk : px_and (i 0 x3) 31 = 24) (hs : ∀ x, px_r32 (i 0 x)) (H : ∀ a1 : Int, px_r32 a1 → ty_ok CR 25 230 [vI a1]) : ∃ i2 l2 : MI, CR (n + 1) i2 l2 ∧ i2 0 = i 0 ∧ px_X (d + 40 + 1) 243 (38, [vR 0, vR 3, vR 123, vI x3], []) (px_sh L, i, l, r, t) = px_X (d + 40 + 1) 243 (38, [vR 0, vR 3, vR 123, vI (x3 + 8)], []) (px_sh L, i2, l2, r, t) := by
  obtain ⟨v, i1, l1, i2, l2, e1, e2, e3, e4, e5⟩ := H _ (hs (x3 + 1)) L t r hr n d i l hn hc
  refine ⟨i2, l2, e3, e5, ?_⟩
  have w1 : px_w32 (x3 + 1) = x3 + 1 := ty_w (by omega)
  have w2 : px_w32 (x3 + 2) = x3 + 2 := ty_w (by omega)
  have w3 : px_w32 (x3 + 3) = x3 + 3 := ty_w (by omega)
  have w4 : px_w32 (x3 + 4) = x3 + 4 := ty_w (by omega)
  have w5 : px_w32 (x3 + 5) = x3 + 5 := ty_w (by omega)
  have w6 : px_w32 (x3 + 6) = x3 + 6 := ty_w (by omega)
  have w7 : px_w32 (x3 + 7) = x3 + 7 := ty_w (by omega)
  have w8 : px_w32 (x3 + 8) = x3 + 8 := ty_w (by omega)
  have wL : px_w32 ((L : Int) - 8) = (L : Int) - 8 := ty_w (by omega)
  rw [lw_38 hr (d + 40) i l x3 hL h0 (by omega), if_neg (by omega), if_neg (by omega), if_neg (by omega), if_neg (by omega), if_neg (by omega), if_neg (by omega), if_neg (by omega), if_neg (by omega), if_neg (by omega), if_neg (by omega), if_neg (by omega), if_neg (by omega), if_neg (by omega), if_neg (by omega), if_neg (by omega), if_neg (by omega), if_neg (by omega), if_neg (by omega), if_neg (by omega), if_neg (by omega), if_neg (by omega), if_neg (by omega), if_neg (by omega), if_neg (by omega), if_neg (by omega), if_pos hk, e1, Option.bind_some, px_psh_some, b243_1077 hr (d + 40) i1 l1 x3 v (by omega), w1, e4, e2, Option.bind_some, px_psh_some, b243_1086 hr, if_pos rfl, w8]
theorem lw_25 {CR : Nat → MI → MI → Prop} (hr : px_hr r) (n d : Nat) (i l : MI) (x3 : Int) (hn : n < 600) (hc : CR n i l) (hL : L ≤ 4098) (h0 : 2 ≤ x3) (h1 : x3 + 8 ≤ L) (hk : px_and (i 0 x3) 31 = 25) (hs : ∀ x, px_r32 (i 0 x)) (H : ∀ a1 : Int, px_r32 a1 → ∀ a2 : Int, px_r32 a2 → ty_ok CR 26 232 [vI a1, vI a2]) : ∃ i2 l2 : MI, CR (n + 1) i2 l2 ∧ i2 0 = i 0 ∧ px_X (d + 40 + 1) 243 (38, [vR 0, vR 3, vR 123, vI x3], []) (px_sh L, i, l, r, t) = px_X (d + 40 + 1) 243 (38, [vR 0, vR 3, vR 123, vI (x3 + 8)], []) (px_sh L, i2, l2, r, t) := by
  obtain ⟨v, i1, l1, i2, l2, e1, e2, e3, e4, e5⟩ := H _ (hs (x3 + 1)) _ (hs (x3 + 2)) L t r hr n d i l hn hc
  refine ⟨i2, l2, e3, e5, ?_⟩
  have w1 : px_w32 (x3 + 1) = x3 + 1 := ty_w (by omega)
  have w2 : px_w32 (x3 + 2) = x3 + 2 := ty_w (by omega)
  have w3 : px_w32 (x3 + 3) = x3 + 3 := ty_w (by omega)
  have w4 : px_w32 (x3 + 4) = x3 + 4 := ty_w (by omega)
  have w5 : px_w32 (x3 + 5) = x3 + 5 := ty_w (by omega)
  have w6 : px_w32 (x3 + 6) = x3 + 6 := ty_w (by omega)
  have w7 : px_w32 (x3 + 7) = x3 + 7 := ty_w (by omega)
  have w8 : px_w32 (x3 + 8) = x3 + 8 := ty_w (by omega)
  have wL : px_w32 ((L : Int) - 8) = (L : Int) - 8 := ty_w (by omega)
  rw [lw_38 hr (d + 40) i l x3 hL h0 (by omega), if_neg (by omega), if_neg (by omega), if_neg (by omega), if_neg (by omega), if_neg (by omega), if_neg (by omega), if_neg (by omega), if_neg (by omega), if_neg (by omega), if_neg (by omega), if_neg (by omega), if_neg (by omega), if_neg (by omega), if_neg (by omega), if_neg (by omega), if_neg (by omega), if_neg (by omega), if_neg (by omega), if_neg (by omega), if_neg (by omega), if_neg (by omega), if_neg (by omega), if_neg (by omega), if_neg (by omega), if_neg (by omega), if_neg (by omega), if_pos hk, e1, Option.bind_some, px_psh_some, b243_1105 hr (d + 40) i1 l1 x3 v (by omega) (by omega), w1, w2, e4, e2, Option.bind_some, px_psh_some, b243_1119 hr, if_pos rfl, w8]
theorem lw_26 {CR : Nat → MI → MI → Prop} (hr : px_hr r) (n d : Nat) (i l : MI) (x3 : Int) (hn : n < 600) (hc : CR n i l) (hL : L ≤ 4098) (h0 : 2 ≤ x3) (h1 : x3 + 8 ≤ L) (hk : px_and (i 0 x3) 31 = 26) (hs : ∀ x, px_r32 (i 0 x)) (H : ty_ok CR 27 233 []) : ∃ i2 l2 : MI, CR (n + 1) i2 l2 ∧ i2 0 = i 0 ∧ px_X (d + 40 + 1) 243 (38, [vR 0, vR 3, vR 123, vI x3], []) (px_sh L, i, l, r, t) = px_X (d + 40 + 1) 243 (38, [vR 0, vR 3, vR 123, vI (x3 + 8)], []) (px_sh L, i2, l2, r, t) := by
  obtain ⟨v, i1, l1, i2, l2, e1, e2, e3, e4, e5⟩ := H L t r hr n d i l hn hc
  refine ⟨i2, l2, e3, e5, ?_⟩
  have w1 : px_w32 (x3 + 1) = x3 + 1 := ty_w (by omega)
  have w2 : px_w32 (x3 + 2) = x3 + 2 := ty_w (by omega)
  have w3 : px_w32 (x3 + 3) = x3 + 3 := ty_w (by omega)
  have w4 : px_w32 (x3 + 4) = x3 + 4 := ty_w (by omega)
  have w5 : px_w32 (x3 + 5) = x3 + 5 := ty_w (by omega)
  have w6 : px_w32 (x3 + 6) = x3 + 6 := ty_w (by omega)
  have w7 : px_w32 (x3 + 7) = x3 + 7 := ty_w (by omega)
  have w8 : px_w32 (x3 + 8) = x3 + 8 := ty_w (by omega)
  have wL : px_w32 ((L : Int) - 8) = (L : Int) - 8 := ty_w (by omega)
  rw [lw_38 hr (d + 40) i l x3 hL h0 (by omega), if_neg (by omega), if_neg (by omega), if_neg (by omega), if_neg (by omega), if_neg (by omega), if_neg (by omega), if_neg (by omega), if_neg (by omega), if_neg (by omega), if_neg (by omega), if_neg (by omega), if_neg (by omega), if_neg (by omega), if_neg (by omega), if_neg (by omega), if_neg (by omega), if_neg (by omega), if_neg (by omega), if_neg (by omega), if_neg (by omega), if_neg (by omega), if_neg (by omega), if_neg (by omega), if_neg (by omega), if_neg (by omega), if_neg (by omega), if_neg (by omega), if_pos hk, e1, Option.bind_some, px_psh_some, b243_1128 hr (d + 40) i1 l1 x3 v, e2, Option.bind_some, px_psh_some, b243_1132 hr, if_pos rfl, w8]
theorem lw_27 {CR : Nat → MI → MI → Prop} (hr : px_hr r) (n d : Nat) (i l : MI) (x3 : Int) (hn : n < 600) (hc : CR n i l) (hL : L ≤ 4098) (h0 : 2 ≤ x3) (h1 : x3 + 8 ≤ L) (hk : px_and (i 0 x3) 31 = 27) (hs : ∀ x, px_r32 (i 0 x)) (H : ty_ok CR 28 234 []) : ∃ i2 l2 : MI, CR (n + 1) i2 l2 ∧ i2 0 = i 0 ∧ px_X (d + 40 + 1) 243 (38, [vR 0, vR 3, vR 123, vI x3], []) (px_sh L, i, l, r, t) = px_X (d + 40 + 1) 243 (38, [vR 0, vR 3, vR 123, vI (x3 + 8)], []) (px_sh L, i2, l2, r, t) := by
  obtain ⟨v, i1, l1, i2, l2, e1, e2, e3, e4, e5⟩ := H L t r hr n d i l hn hc
  refine ⟨i2, l2, e3, e5, ?_⟩
  have w1 : px_w32 (x3 + 1) = x3 + 1 := ty_w (by omega)
  have w2 : px_w32 (x3 + 2) = x3 + 2 := ty_w (by omega)
  have w3 : px_w32 (x3 + 3) = x3 + 3 := ty_w (by omega)
  have w4 : px_w32 (x3 + 4) = x3 + 4 := ty_w (by omega)
  have w5 : px_w32 (x3 + 5) = x3 + 5 := ty_w (by omega)
  have w6 : px_w32 (x3 + 6) = x3 + 6 := ty_w (by omega)
  have w7 : px_w32 (x3 + 7) = x3 + 7 := ty_w (by omega)
  have w8 : px_w32 (x3 + 8) = x3 + 8 := ty_w (by omega)
  have wL : px_w32 ((L : Int) - 8) = (L : Int) - 8 := ty_w (by omega)
  rw [lw_38 hr (d + 40) i l x3 hL h0 (by omega), if_neg (by omega), if_neg (by omega), if_neg (by omega), if_neg (by omega), if_neg (by omega), if_neg (by omega), if_neg (by omega), if_neg (by omega), if_neg (by omega), if_neg (by omega), if_neg (by omega), if_neg (by omega), if_neg (by omega), if_neg (by omega), if_neg (by omega), if_neg (by omega), if_neg (by omega), if_neg (by omega), if_neg (by omega), if_neg (by omega), if_neg (by omega), if_neg (by omega), if_neg (by omega), if_neg (by omega), if_neg (by omega), if_neg (by omega), if_neg (by omega), if_neg (by omega), if_pos hk, e1, Option.bind_some, px_psh_some, b243_1141 hr (d + 40) i1 l1 x3 v, e2, Option.bind_some, px_psh_some, b243_1145 hr, if_pos rfl, w8]
theorem lw_28 {CR : Nat → MI → MI → Prop} (hr : px_hr r) (n d : Nat) (i l : MI) (x3 : Int) (hn : n < 600) (hc : CR n i l) (hL : L ≤ 4098) (h0 : 2 ≤ x3) (h1 : x3 + 8 ≤ L) (hk : px_and (i 0 x3) 31 = 28) (hs : ∀ x, px_r32 (i 0 x)) (H : ∀ a1 : Int, px_r32 a1 → ty_ok CR 29 235 [vI a1]) : ∃ i2 l2 : MI, CR (n + 1) i2 l2 ∧ i2 0 = i 0 ∧ px_X (d + 40 + 1) 243 (38, [vR 0, vR 3, vR 123, vI x3], []) (px_sh L, i, l, r, t) = px_X (d + 40 + 1) 243 (38, [vR 0, vR 3, vR 123, vI (x3 + 8)], []) (px_sh L, i2, l2, r, t) := by
  obtain ⟨v, i1, l1, i2, l2, e1, e2, e3, e4, e5⟩ := H _ (hs (x3 + 1)) L t r hr n d i l hn hc
  refine ⟨i2, l2, e3, e5, ?_⟩
  have w1 : px_w32 (x3 + 1) = x3 + 1 := ty_w (by omega)
  have w2 : px_w32 (x3 + 2) = x3 + 2 := ty_w (by omega)
  have w3 : px_w32 (x3 + 3) = x3 + 3 := ty_w (by omega)
  have w4 : px_w32 (x3 + 4) = x3 + 4 := ty_w (by omega)
  have w5 : px_w32 (x3 + 5) = x3 + 5 := ty_w (by omega)
  have w6 : px_w32 (x3 + 6) = x3 + 6 := ty_w (by omega)
  have w7 : px_w32 (x3 + 7) = x3 + 7 := ty_w (by omega)
  have w8 : px_w32 (x3 + 8) = x3 + 8 := ty_w (by omega)
  have wL : px_w32 ((L : Int) - 8) = (L : Int) - 8 := ty_w (by omega)
  rw [lw_38 hr (d + 40) i l x3 hL h0 (by omega), if_neg (by omega), if_neg (by omega), if_neg (by omega), if_neg (by omega), if_neg (by omega), if_neg (by omega), if_neg (by omega), if_neg (by omega), if_neg (by omega), if_neg (by omega), if_neg (by omega), if_neg (by omega), if_neg (by omega), if_neg (by omega), if_neg (by omega), if_neg (by omega), if_neg (by omega), if_neg (by omega), if_neg (by omega), if_neg (by omega), if_neg (by omega), if_neg (by omega), if_neg (by omega), if_neg (by omega), if_neg (by omega), if_neg (by omega), if_neg (by omega), if_neg (by omega), if_neg (by omega), if_pos hk, e1, Option.bind_some, px_psh_some, b243_1159 hr (d + 40) i1 l1 x3 v (by omega), w1, e4, e2, Option.bind_some, px_psh_some, b243_1168 hr, if_pos rfl, w8]
theorem lw_29 (hr : px_hr r) (d : Nat) (i l : MI) (x3 : Int) (hL : L ≤ 4098) (h0 : 2 ≤ x3) (h1 : x3 + 8 ≤ L) (hk : px_and (i 0 x3) 31 ≠ 0 ∧ px_and (i 0 x3) 31 ≠ 1 ∧ px_and (i 0 x3) 31 ≠ 2 ∧ px_and (i 0 x3) 31 ≠ 3 ∧ px_and (i 0 x3) 31 ≠ 4 ∧ px_and (i 0 x3) 31 ≠ 5 ∧ px_and (i 0 x3) 31 ≠ 6 ∧ px_and (i 0 x3) 31 ≠ 7 ∧ px_and (i 0 x3) 31 ≠ 8 ∧ px_and (i 0 x3) 31 ≠ 9 ∧ px_and (i 0 x3) 31 ≠ 10 ∧ px_and (i 0 x3) 31 ≠ 11 ∧ px_and (i 0 x3) 31 ≠ 12 ∧ px_and (i 0 x3) 31 ≠ 13 ∧ px_and (i 0 x3) 31 ≠ 14 ∧ px_and (i 0 x3) 31 ≠ 15 ∧ px_and (i 0 x3) 31 ≠ 16 ∧ px_and (i 0 x3) 31 ≠ 17 ∧ px_and (i 0 x3) 31 ≠ 18 ∧ px_and (i 0 x3) 31 ≠ 19 ∧ px_and (i 0 x3) 31 ≠ 20 ∧ px_and (i 0 x3) 31 ≠ 21 ∧ px_and (i 0 x3) 31 ≠ 22 ∧ px_and (i 0 x3) 31 ≠ 23 ∧ px_and (i 0 x3) 31 ≠ 24 ∧ px_and (i 0 x3) 31 ≠ 25 ∧ px_and (i 0 x3) 31 ≠ 26 ∧ px_and (i 0 x3) 31 ≠ 27 ∧ px_and (i 0 x3) 31 ≠ 28) : px_X (d + 40 + 1) 243 (38, [vR 0, vR 3, vR 123, vI x3], []) (px_sh L, i, l, r, t) = px_X (d + 40 + 1) 243 (38, [vR 0, vR 3, vR 123, vI (x3 + 8)], []) (px_sh L, i, l, r, t) := by
  rw [lw_38 hr (d + 40) i l x3 hL h0 (by omega), if_neg (by omega), if_neg (by omega), if_neg (by omega), if_neg (by omega), if_neg (by omega), if_neg (by omega), if_neg (by omega), if_neg (by omega), if_neg (by omega), if_neg (by omega), if_neg (by omega), if_neg (by omega), if_neg (by omega), if_neg (by omega), if_neg (by omega), if_neg (by omega), if_neg (by omega), if_neg (by omega), if_neg (by omega), if_neg (by omega), if_neg (by omega), if_neg (by omega), if_neg (by omega), if_neg (by omega), if_neg (by omega), if_neg (by omega), if_neg (by omega), if_neg (by omega), if_neg (by omega), if_neg (by omega)]
theorem lw_end (hr : px_hr r) (d : Nat) (i l : MI) (x3 : Int) (hL : L ≤ 4098) (h0 : 2 ≤ x3) (h1 : x3 ≤ 5000) (h2 : (L : Int) < x3 + 8) : px_X (d + 40 + 1) 243 (38, [vR 0, vR 3, vR 123, vI x3], []) (px_sh L, i, l, r, t) = some (some (vI 1), (px_sh L, i, l, r, t)) := by
  rw [lw_38 hr (d + 40) i l x3 hL h0 h1, if_pos (by omega)]
theorem lw_loop {CR : Nat → MI → MI → Prop} (hr : px_hr r) (d : Nat) (hL : L ≤ 4098) (hm : ∀ n i l, CR n i l → CR (n + 1) i l) (H0 : ∀ a1 : Int, px_r32 a1 → ∀ a2 : Int, px_r32 a2 → ∀ b : Int, (b = 0 ∨ b = 1) → ty_ok CR 1 147 [vI a1, vI a2, vI b]) (H1 : ∀ a1 : Int, px_r32 a1 → ty_ok CR 2 148 [vI a1]) (H2 : ∀ a1 : Int, px_r32 a1 → ∀ a2 : Int, px_r32 a2 → ty_ok CR 3 149 [vI a1, vI a2]) (H3 : ∀ a1 : Int, px_r32 a1 → ∀ a2 : Int, px_r32 a2 → ty_ok CR 4 150 [vI a1, vI a2]) (H4 : ∀ a1 : Int, px_r32 a1 → ∀ a2 : Int, px_r32 a2 → ∀ b : Int, (b = 0 ∨ b = 1) → ∀ a4 : Int, px_r32 a4 → ∀ a5 : Int, px_r32 a5 → ∀ a6 : Int, px_r32 a6 → ∀ a7 : Int, px_r32 a7 → ty_ok CR 5 151 [vI a1, vI a2, vI b, vI a4, vI a5, vI a6, vI a7]) (H5 : ∀ a1 : Int, px_r32 a1 → ∀ a2 : Int, px_r32 a2 → ∀ b : Int, (b = 0 ∨ b = 1) → ty_ok CR 6 152 [vI a1, vI a2, vI b]) (H6 : ∀ a1 : Int, px_r32 a1 → ∀ a2 : Int, px_r32 a2 → ∀ a3 : Int, px_r32 a3 → ∀ a4 : Int, px_r32 a4 → ∀ a5 : Int, px_r32 a5 → ty_ok CR 7 154 [vI a1, vI a2, vI a3, vI a4, vI a5]) (H7 : ∀ a1 : Int, px_r32 a1 → ty_ok CR 8 155 [vI a1]) (H8 : ty_ok CR 9 180 []) (H9 : ∀ a1 : Int, px_r32 a1 → ty_ok CR 10 182 [vI a1]) (H10 : ∀ a1 : Int, px_r32 a1 → ty_ok CR 11 186 [vI a1]) (H11 : ∀ a1 : Int, px_r32 a1 → ty_ok CR 12 193 [vI a1]) (H12 : ∀ a1 : Int, px_r32 a1 → ∀ a2 : Int, px_r32 a2 → ty_ok CR 13 199 [vI a1, vI a2]) (H13 : ∀ a1 : Int, px_r32 a1 → ∀ a2 : Int, px_r32 a2 → ∀ a3 : Int, px_r32 a3 → ty_ok CR 14 203 [vI a1, vI a2, vI a3]) (H14 : ∀ a1 : Int, px_r32 a1 → ∀ a2 : Int, px_r32 a2 → ty_ok CR 15 205 [vI a1, vI a2]) (H15 : ∀ a1 : Int, px_r32 a1 → ∀ a2 : Int, px_r32 a2 → ty_ok CR 16 206 [vI a1, vI a2]) (H16 : ∀ a1 : Int, px_r32 a1 → ∀ a2 : Int, px_r32 a2 → ∀ a3 : Int, px_r32 a3 → ty_ok CR 17 213 [vI a1, vI a2, vI a3]) (H17 : ∀ a1 : Int, px_r32 a1 → ty_ok CR 18 214 [vI a1]) (H18 : ∀ a1 : Int, px_r32 a1 → ∀ a2 : Int, px_r32 a2 → ∀ a3 : Int, px_r32 a3 → ∀ a4 : Int, px_r32 a4 → ty_ok CR 19 218 [vI a1, vI a2, vI a3, vI a4]) (H19 : ∀ a1 : Int, px_r32 a1 → ∀ a2 : Int, px_r32 a2 → ty_ok CR 20 221 [vI a1, vI a2]) (H20 : ∀ a1 : Int, px_r32 a1 → ∀ a2 : Int, px_r32 a2 → ty_ok CR 21 224 [vI a1, vI a2]) (H21 : ∀ a1 : Int, px_r32 a1 → ty_ok CR 22 225 [vI a1]) (H22 : ty_ok CR 23 227 []) (H23 : ∀ a1 : Int, px_r32 a1 → ∀ a2 : Int, px_r32 a2 → ∀ a3 : Int, px_r32 a3 → ty_ok CR 24 228 [vI a1, vI a2, vI a3]) (H24 : ∀ a1 : Int, px_r32 a1 → ty_ok CR 25 230 [vI a1]) (H25 : ∀ a1 : Int, px_r32 a1 → ∀ a2 : Int, px_r32 a2 → ty_ok CR 26 232 [vI a1, vI a2]) (H26 : ty_ok CR 27 233 []) (H27 : ty_ok CR 28 234 []) (H28 : ∀ a1 : Int, px_r32 a1 → ty_ok CR 29 235 [vI a1]) (m : Nat) : ∀ (n : Nat) (i l : MI) (x3 : Int), CR n i l → (∀ x, px_r32 (i 0 x)) → x3 = 2 + 8 * n → x3 ≤ 5000 → (L : Int) < x3 + 8 * m → ∃ i2 l2 : MI, px_X (d + 40 + 1) 243 (38, [vR 0, vR 3, vR 123, vI x3], []) (px_sh L, i, l, r, t) = some (some (vI 1), (px_sh L, i2, l2, r, t)) := by
  induction m with
  | zero =>
    intro n i l x3 hc hs hx h5 hmm
    exact ⟨i, l, lw_end hr d i l x3 hL (by omega) h5 (by omega)⟩
  | succ m ih =>
    intro n i l x3 hc hs hx h5 hmm
    by_cases h8 : (L : Int) < x3 + 8
    · exact ⟨i, l, lw_end hr d i l x3 hL (by omega) h5 h8⟩
    by_cases c0 : px_and (i 0 x3) 31 = 0
    · obtain ⟨i2, l2, e1, e2, e3⟩ := lw_0 (t := t) hr n d i l x3 (by omega) hc hL (by omega) (by omega) c0 hs H0
      rw [e3]
      exact ih (n + 1) i2 l2 (x3 + 8) e1 (by rw [e2]; exact hs) (by omega) (by omega) (by omega)
    by_cases c1 : px_and (i 0 x3) 31 = 1
    · obtain ⟨i2, l2, e1, e2, e3⟩ := lw_1 (t := t) hr n d i l x3 (by omega) hc hL (by omega) (by omega) c1 hs H1
      rw [e3]
      exact ih (n + 1) i2 l2 (x3 + 8) e1 (by rw [e2]; exact hs) (by omega) (by omega) (by omega)
    by_cases c2 : px_and (i 0 x3) 31 = 2
    · obtain ⟨i2, l2, e1, e2, e3⟩ := lw_2 (t := t) hr n d i l x3 (by omega) hc hL (by omega) (by omega) c2 hs H2
      rw [e3]
      exact ih (n + 1) i2 l2 (x3 + 8) e1 (by rw [e2]; exact hs) (by omega) (by omega) (by omega)
    by_cases c3 : px_and (i 0 x3) 31 = 3
    · obtain ⟨i2, l2, e1, e2, e3⟩ := lw_3 (t := t) hr n d i l x3 (by omega) hc hL (by omega) (by omega) c3 hs H3
      rw [e3]
      exact ih (n + 1) i2 l2 (x3 + 8) e1 (by rw [e2]; exact hs) (by omega) (by omega) (by omega)
    by_cases c4 : px_and (i 0 x3) 31 = 4
    · obtain ⟨i2, l2, e1, e2, e3⟩ := lw_4 (t := t) hr n d i l x3 (by omega) hc hL (by omega) (by omega) c4 hs H4
      rw [e3]
      exact ih (n + 1) i2 l2 (x3 + 8) e1 (by rw [e2]; exact hs) (by omega) (by omega) (by omega)
    by_cases c5 : px_and (i 0 x3) 31 = 5
    · obtain ⟨i2, l2, e1, e2, e3⟩ := lw_5 (t := t) hr n d i l x3 (by omega) hc hL (by omega) (by omega) c5 hs H5
      rw [e3]
      exact ih (n + 1) i2 l2 (x3 + 8) e1 (by rw [e2]; exact hs) (by omega) (by omega) (by omega)
    by_cases c6 : px_and (i 0 x3) 31 = 6
    · obtain ⟨i2, l2, e1, e2, e3⟩ := lw_6 (t := t) hr n d i l x3 (by omega) hc hL (by omega) (by omega) c6 hs H6
      rw [e3]
      exact ih (n + 1) i2 l2 (x3 + 8) e1 (by rw [e2]; exact hs) (by omega) (by omega) (by omega)
    by_cases c7 : px_and (i 0 x3) 31 = 7
    · obtain ⟨i2, l2, e1, e2, e3⟩ := lw_7 (t := t) hr n d i l x3 (by omega) hc hL (by omega) (by omega) c7 hs H7
      rw [e3]
      exact ih (n + 1) i2 l2 (x3 + 8) e1 (by rw [e2]; exact hs) (by omega) (by omega) (by omega)
    by_cases c8 : px_and (i 0 x3) 31 = 8
    · obtain ⟨i2, l2, e1, e2, e3⟩ := lw_8 (t := t) hr n d i l x3 (by omega) hc hL (by omega) (by omega) c8 hs H8
      rw [e3]
      exact ih (n + 1) i2 l2 (x3 + 8) e1 (by rw [e2]; exact hs) (by omega) (by omega) (by omega)
    by_cases c9 : px_and (i 0 x3) 31 = 9
    · obtain ⟨i2, l2, e1, e2, e3⟩ := lw_9 (t := t) hr n d i l x3 (by omega) hc hL (by omega) (by omega) c9 hs H9
      rw [e3]
      exact ih (n + 1) i2 l2 (x3 + 8) e1 (by rw [e2]; exact hs) (by omega) (by omega) (by omega)
    by_cases c10 : px_and (i 0 x3) 31 = 10
    · obtain ⟨i2, l2, e1, e2, e3⟩ := lw_10 (t := t) hr n d i l x3 (by omega) hc hL (by omega) (by omega) c10 hs H10
      rw [e3]
      exact ih (n + 1) i2 l2 (x3 + 8) e1 (by rw [e2]; exact hs) (by omega) (by omega) (by omega)
    by_cases c11 : px_and (i 0 x3) 31 = 11
    · obtain ⟨i2, l2, e1, e2, e3⟩ := lw_11 (t := t) hr n d i l x3 (by omega) hc hL (by omega) (by omega) c11 hs H11
      rw [e3]
      exact ih (n + 1) i2 l2 (x3 + 8) e1 (by rw [e2]; exact hs) (by omega) (by omega) (by omega)
    by_cases c12 : px_and (i 0 x3) 31 = 12
    · obtain ⟨i2, l2, e1, e2, e3⟩ := lw_12 (t := t) hr n d i l x3 (by omega) hc hL (by omega) (by omega) c12 hs H12
      rw [e3]
      exact ih (n + 1) i2 l2 (x3 + 8) e1 (by rw [e2]; exact hs) (by omega) (by omega) (by omega)
    by_cases c13 : px_and (i 0 x3) 31 = 13
    · obtain ⟨i2, l2, e1, e2, e3⟩ := lw_13 (t := t) hr n d i l x3 (by omega) hc hL (by omega) (by omega) c13 hs H13
      rw [e3]
      exact ih (n + 1) i2 l2 (x3 + 8) e1 (by rw [e2]; exact hs) (by omega) (by omega) (by omega)
    by_cases c14 : px_and (i 0 x3) 31 = 14
    · obtain ⟨i2, l2, e1, e2, e3⟩ := lw_14 (t := t) hr n d i l x3 (by omega) hc hL (by omega) (by omega) c14 hs H14
      rw [e3]
      exact ih (n + 1) i2 l2 (x3 + 8) e1 (by rw [e2]; exact hs) (by omega) (by omega) (by omega)
    by_cases c15 : px_and (i 0 x3) 31 = 15
    · obtain ⟨i2, l2, e1, e2, e3⟩ := lw_15 (t := t) hr n d i l x3 (by omega) hc hL (by omega) (by omega) c15 hs H15
      rw [e3]
      exact ih (n + 1) i2 l2 (x3 + 8) e1 (by rw [e2]; exact hs) (by omega) (by omega) (by omega)
    by_cases c16 : px_and (i 0 x3) 31 = 16
    · obtain ⟨i2, l2, e1, e2, e3⟩ := lw_16 (t := t) hr n d i l x3 (by omega) hc hL (by omega) (by omega) c16 hs H16
      rw [e3]
      exact ih (n + 1) i2 l2 (x3 + 8) e1 (by rw [e2]; exact hs) (by omega) (by omega) (by omega)
    by_cases c17 : px_and (i 0 x3) 31 = 17
    · obtain ⟨i2, l2, e1, e2, e3⟩ := lw_17 (t := t) hr n d i l x3 (by omega) hc hL (by omega) (by omega) c17 hs H17
      rw [e3]
      exact ih (n + 1) i2 l2 (x3 + 8) e1 (by rw [e2]; exact hs) (by omega) (by omega) (by omega)
    by_cases c18 : px_and (i 0 x3) 31 = 18
    · obtain ⟨i2, l2, e1, e2, e3⟩ := lw_18 (t := t) hr n d i l x3 (by omega) hc hL (by omega) (by omega) c18 hs H18
      rw [e3]
      exact ih (n + 1) i2 l2 (x3 + 8) e1 (by rw [e2]; exact hs) (by omega) (by omega) (by omega)
    by_cases c19 : px_and (i 0 x3) 31 = 19
    · obtain ⟨i2, l2, e1, e2, e3⟩ := lw_19 (t := t) hr n d i l x3 (by omega) hc hL (by omega) (by omega) c19 hs H19
      rw [e3]
      exact ih (n + 1) i2 l2 (x3 + 8) e1 (by rw [e2]; exact hs) (by omega) (by omega) (by omega)
    by_cases c20 : px_and (i 0 x3) 31 = 20
    · obtain ⟨i2, l2, e1, e2, e3⟩ := lw_20 (t := t) hr n d i l x3 (by omega) hc hL (by omega) (by omega) c20 hs H20
      rw [e3]
      exact ih (n + 1) i2 l2 (x3 + 8) e1 (by rw [e2]; exact hs) (by omega) (by omega) (by omega)
    by_cases c21 : px_and (i 0 x3) 31 = 21
    · obtain ⟨i2, l2, e1, e2, e3⟩ := lw_21 (t := t) hr n d i l x3 (by omega) hc hL (by omega) (by omega) c21 hs H21
      rw [e3]
      exact ih (n + 1) i2 l2 (x3 + 8) e1 (by rw [e2]; exact hs) (by omega) (by omega) (by omega)
    by_cases c22 : px_and (i 0 x3) 31 = 22
    · obtain ⟨i2, l2, e1, e2, e3⟩ := lw_22 (t := t) hr n d i l x3 (by omega) hc hL (by omega) (by omega) c22 hs H22
      rw [e3]
      exact ih (n + 1) i2 l2 (x3 + 8) e1 (by rw [e2]; exact hs) (by omega) (by omega) (by omega)
    by_cases c23 : px_and (i 0 x3) 31 = 23
    · obtain ⟨i2, l2, e1, e2, e3⟩ := lw_23 (t := t) hr n d i l x3 (by omega) hc hL (by omega) (by omega) c23 hs H23
      rw [e3]
      exact ih (n + 1) i2 l2 (x3 + 8) e1 (by rw [e2]; exact hs) (by omega) (by omega) (by omega)
    by_cases c24 : px_and (i 0 x3) 31 = 24
    · obtain ⟨i2, l2, e1, e2, e3⟩ := lw_24 (t := t) hr n d i l x3 (by omega) hc hL (by omega) (by omega) c24 hs H24
      rw [e3]
      exact ih (n + 1) i2 l2 (x3 + 8) e1 (by rw [e2]; exact hs) (by omega) (by omega) (by omega)
    by_cases c25 : px_and (i 0 x3) 31 = 25
    · obtain ⟨i2, l2, e1, e2, e3⟩ := lw_25 (t := t) hr n d i l x3 (by omega) hc hL (by omega) (by omega) c25 hs H25
      rw [e3]
      exact ih (n + 1) i2 l2 (x3 + 8) e1 (by rw [e2]; exact hs) (by omega) (by omega) (by omega)
    by_cases c26 : px_and (i 0 x3) 31 = 26
    · obtain ⟨i2, l2, e1, e2, e3⟩ := lw_26 (t := t) hr n d i l x3 (by omega) hc hL (by omega) (by omega) c26 hs H26
      rw [e3]
      exact ih (n + 1) i2 l2 (x3 + 8) e1 (by rw [e2]; exact hs) (by omega) (by omega) (by omega)
    by_cases c27 : px_and (i 0 x3) 31 = 27
    · obtain ⟨i2, l2, e1, e2, e3⟩ := lw_27 (t := t) hr n d i l x3 (by omega) hc hL (by omega) (by omega) c27 hs H27
      rw [e3]
      exact ih (n + 1) i2 l2 (x3 + 8) e1 (by rw [e2]; exact hs) (by omega) (by omega) (by omega)
    by_cases c28 : px_and (i 0 x3) 31 = 28
    · obtain ⟨i2, l2, e1, e2, e3⟩ := lw_28 (t := t) hr n d i l x3 (by omega) hc hL (by omega) (by omega) c28 hs H28
      rw [e3]
      exact ih (n + 1) i2 l2 (x3 + 8) e1 (by rw [e2]; exact hs) (by omega) (by omega) (by omega)
    rw [lw_29 hr d i l x3 hL (by omega) (by omega) ⟨c0, c1, c2, c3, c4, c5, c6, c7, c8, c9, c10, c11, c12, c13, c14, c15, c16, c17, c18, c19, c20, c21, c22, c23, c24, c25, c26, c27, c28⟩]
    exact ih (n + 1) i l (x3 + 8) (hm n i l hc) hs (by omega) (by omega) (by omega)
end TYL
