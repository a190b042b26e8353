/-! The memory while the constructors make it: the first n shapes. -/
def px_T (L n : Nat) : List Sh := (px_sh L).take n
set_option maxRecDepth 20000 in
theorem px_Tlen (L : Nat) : (px_sh L).length = 159 := rfl
theorem px_Tk {L n k : Nat} {s : Sh} (hs : (px_sh L)[k]? = some s) (h : k < n) : (px_T L n)[k]? = some s := by
  unfold px_T
  rw [List.getElem?_take_of_lt h]
  exact hs
theorem px_Tn {L n : Nat} {s : Sh} (hs : (px_sh L)[n]? = some s) : (px_T L n).length = n ∧ px_T L n ++ [s] = px_T L (n + 1) := by
  have hlt : n < (px_sh L).length := (List.getElem?_eq_some_iff.mp hs).1
  unfold px_T
  refine ⟨by rw [List.length_take]; omega, ?_⟩
  rw [List.take_succ, hs]
  rfl
theorem px_mkT {L n N : Nat} {s : Sh} {i l : MI} {r : MR} {t : Nat} (hs : (px_sh L)[n]? = some s) : px_mk (px_T L n, i, l, r, t) s N = (px_T L (n + 1), px_un i n (fun _ => 0), px_un l n (fun _ => 0), px_un r n (fun _ => none), t + N) := by
  obtain ⟨h1, h2⟩ := px_Tn hs
  show (px_T L n ++ [s], px_un i (px_T L n).length (fun _ => 0), px_un l (px_T L n).length (fun _ => 0), px_un r (px_T L n).length (fun _ => none), t + N) = _
  rw [h1, h2]
section PXS
variable {d m pc L n : Nat} {ls st : List PV} {i l : MI} {r : MR} {t : Nat}
theorem xs_newT {nn l0 ci : Nat} {z : Int} (k : px_cod m pc = some (.new nn, 3, [l0, ci], z)) (hs : (px_sh L)[n]? = some (.inl ci)) (_ : n < 159) : px_X d m (pc, ls, st) (px_T L n, i, l, r, t) = px_X d m (pc + 3, ls, vR n :: st) (px_T L (n + 1), px_un i n (fun _ => 0), px_un l n (fun _ => 0), px_un r n (fun _ => none), t + px_nf ci) := by
  rw [xs_new k, px_mkT hs, (px_Tn hs).1]
theorem xs_nwa0T {N o : Nat} {x z : Int} (k : px_cod m pc = some (.newarray .int, 2, [o], z)) (hx : x = (N : Int)) (hN : N ≤ 10000) (hs : (px_sh L)[n]? = some (.inr (0, N))) (_ : n < 159) : px_X d m (pc, ls, vI x :: st) (px_T L n, i, l, r, t) = px_X d m (pc + 2, ls, vR n :: st) (px_T L (n + 1), px_un i n (fun _ => 0), px_un l n (fun _ => 0), px_un r n (fun _ => none), t + N) := by
  subst hx
  rw [xs_nwa0 k (by omega), Int.toNat_natCast, px_mkT hs, (px_Tn hs).1]
theorem xs_nwa1T {N o : Nat} {x z : Int} (k : px_cod m pc = some (.newarray .byte, 2, [o], z)) (hx : x = (N : Int)) (hN : N ≤ 10000) (hs : (px_sh L)[n]? = some (.inr (1, N))) (_ : n < 159) : px_X d m (pc, ls, vI x :: st) (px_T L n, i, l, r, t) = px_X d m (pc + 2, ls, vR n :: st) (px_T L (n + 1), px_un i n (fun _ => 0), px_un l n (fun _ => 0), px_un r n (fun _ => none), t + N) := by
  subst hx
  rw [xs_nwa1 k (by omega), Int.toNat_natCast, px_mkT hs, (px_Tn hs).1]
theorem xs_nwa2T {N o : Nat} {x z : Int} (k : px_cod m pc = some (.newarray .boolean, 2, [o], z)) (hx : x = (N : Int)) (hN : N ≤ 10000) (hs : (px_sh L)[n]? = some (.inr (2, N))) (_ : n < 159) : px_X d m (pc, ls, vI x :: st) (px_T L n, i, l, r, t) = px_X d m (pc + 2, ls, vR n :: st) (px_T L (n + 1), px_un i n (fun _ => 0), px_un l n (fun _ => 0), px_un r n (fun _ => none), t + N) := by
  subst hx
  rw [xs_nwa2 k (by omega), Int.toNat_natCast, px_mkT hs, (px_Tn hs).1]
theorem xs_nwa3T {N o : Nat} {x z : Int} (k : px_cod m pc = some (.newarray .long, 2, [o], z)) (hx : x = (N : Int)) (hN : N ≤ 10000) (hs : (px_sh L)[n]? = some (.inr (3, N))) (_ : n < 159) : px_X d m (pc, ls, vI x :: st) (px_T L n, i, l, r, t) = px_X d m (pc + 2, ls, vR n :: st) (px_T L (n + 1), px_un i n (fun _ => 0), px_un l n (fun _ => 0), px_un r n (fun _ => none), t + N) := by
  subst hx
  rw [xs_nwa3 k (by omega), Int.toNat_natCast, px_mkT hs, (px_Tn hs).1]
theorem xs_anwT {nn l0 ci N : Nat} {x z : Int} (k : px_cod m pc = some (.anewarray nn, 3, [l0, ci], z)) (hc : ci = 3 ∨ ci = 11) (hx : x = (N : Int)) (hN : N ≤ 10000) (hs : (px_sh L)[n]? = some (.inr (4 + ci, N))) (_ : n < 159) : px_X d m (pc, ls, vI x :: st) (px_T L n, i, l, r, t) = px_X d m (pc + 3, ls, vR n :: st) (px_T L (n + 1), px_un i n (fun _ => 0), px_un l n (fun _ => 0), px_un r n (fun _ => none), t + N) := by
  subst hx
  rw [xs_anw k hc (by omega), Int.toNat_natCast, px_mkT hs, (px_Tn hs).1]
end PXS
/-- the mask of a column -/
def zbl (W : Int) : Nat → Int → Int
  | 0, x => x
  | n + 1, x => zbl W n (px_lor (px_lshl x W) 1)
/-- width and height are held to 2 .. 6 -/
def zmm (w : Int) : Int := if 2 < (if w < 6 then w else 6) then (if w < 6 then w else 6) else 2
def zcl (w : Int) : Int := if 2 ≤ w then (if w ≤ 6 then w else 6) else 2
theorem zmm_cl (w : Int) : zmm w = zcl w := by
  unfold zmm zcl
  by_cases h1 : 2 ≤ w
  · rw [if_pos h1]
    by_cases h2 : w ≤ 6
    · rw [if_pos h2]
      by_cases h3 : w < 6
      · rw [if_pos h3]
        split <;> omega
      · rw [if_neg h3, if_pos (by decide)]
        omega
    · rw [if_neg h2, if_neg (show ¬ w < 6 by omega), if_pos (by decide)]
  · rw [if_neg h1, if_pos (show w < 6 by omega), if_neg (by omega)]
theorem zcl_b (w : Int) : 2 ≤ zcl w ∧ zcl w ≤ 6 := by
  unfold zcl
  split
  · split <;> omega
  · omega
section PXG
variable {sh : List Sh} {r : MR} {t : Nat}
theorem z241_5 (d : Nat) (i l : MI) {k0 n0 : Nat} (hk0 : sh[k0]? = some (.inr (0, n0))) (g0 : 3 ≤ k0) (x1 : Int) (x2 : Int) (x3 : Int) (h1 : (¬ (x3 ≤ x2)) → 0 ≤ x2 ∧ x2 < (n0 : Int)) : px_X d 241 (5, [vR k0, vI x1, vI x2, vI x3], []) (sh, i, l, r, t) = if x3 ≤ x2 then some (none, (sh, i, l, r, t)) else px_X d 241 (5, [vR k0, vI x1, vI (px_w32 (x2 + 1)), vI x3], []) (sh, (px_up i k0 x2 x1), l, r, t) := ((xs_ildn k241_5 rfl).trans ((xs_ildn k241_6 rfl).trans ((xs_jge k241_7).trans (px_ite (fun c1 => (xs_rv k241_20 rfl)) (fun c1 => ((xs_aldn k241_10 rfl).trans ((xs_ildn k241_11 rfl).trans ((xs_ildn k241_12 rfl).trans ((xs_iast k241_13 hk0 (h1 c1) g0).trans ((xs_iinc k241_14 rfl (by omega) (ls' := [vR k0, vI x1, vI (px_w32 (x2 + 1)), vI x3]) rfl).trans (xs_goto k241_17)))))))))))
theorem z241_a : ∀ (n : Nat) (d : Nat) (i l : MI) {k N : Nat} (_ : sh[k]? = some (.inr (0, N))) (_ : 3 ≤ k) (_ : N < 2147483647) (v x : Int) (_ : 0 ≤ x) (_ : x + n = N), px_X d 241 (5, [vR k, vI v, vI x, vI (N : Int)], []) (sh, i, l, r, t) = some (none, (sh, px_un i k (fun j => if x ≤ j ∧ j < (N : Int) then v else i k j), l, r, t))
  | 0, d, i, l, k, N, hk, h3, hN, v, x, hx, hn => by
    rw [z241_5 d i l hk h3 v x N (by omega), if_pos (by omega)]
    rw [ty_un_id (fun j => if_neg (by omega))]
  | n + 1, d, i, l, k, N, hk, h3, hN, v, x, hx, hn => by
    rw [z241_5 d i l hk h3 v x N (by omega), if_neg (by omega), ty_w (by omega), z241_a n d _ l hk h3 hN v (x + 1) (by omega) (by omega)]
    rw [ty_un_up (g' := fun j => if x ≤ j ∧ j < (N : Int) then v else i k j) (fun j => ?_)]
    by_cases h1 : x + 1 ≤ j ∧ j < (N : Int)
    · rw [if_pos h1, if_pos (by omega)]
    · rw [if_neg h1]
      by_cases h2 : j = x
      · rw [h2, ty_up_eq, if_pos (by omega)]
      · rw [ty_up_j (by omega), if_neg (by omega)]
/-- Arrays.fill over any memory -/
theorem z241 (d : Nat) (i l : MI) (r : MR) (t : Nat) {k0 n0 : Nat} (hk0 : sh[k0]? = some (.inr (0, n0))) (g0 : 3 ≤ k0) (hn : n0 < 2147483647) (x1 : Int) : px_C d 241 [vR k0, vI x1] (sh, i, l, r, t) = some (none, (sh, px_un i k0 (fun j => if 0 ≤ j ∧ j < (n0 : Int) then x1 else i k0 j), l, r, t)) := by
  have h0 : px_X d 241 (0, [vR k0, vI x1, vJ, vJ], []) (sh, i, l, r, t) = px_X d 241 (5, [vR k0, vI x1, vI 0, vI (n0 : Int)], []) (sh, i, l, r, t) := ((xs_ic k241_0 (by omega)).trans ((xs_istn k241_1 (Nat.le_of_ble_eq_true rfl) (ls' := [vR k0, vI x1, vI 0, vJ]) rfl).trans ((xs_aldn k241_2 rfl).trans ((xs_aln k241_3 hk0).trans (xs_istn k241_4 (Nat.le_of_ble_eq_true rfl) (ls' := [vR k0, vI x1, vI 0, vI (n0 : Int)]) rfl)))))
  rw [e241, h0, z241_a n0 d i l hk0 g0 hn x1 0 (by omega) (by omega)]
/-- the law's cell over any memory -/
def z_at (L : Nat) (i : MI) (x : Int) : Int := if (L : Int) ≤ x then 0 else i 0 x
theorem z236 {L : Nat} (d : Nat) (i l : MI) (r : MR) (t : Nat) (h0 : sh[0]? = some (.inr (0, L))) (x : Int) (hx : 0 ≤ x) : px_C d 236 [vR 0, vI x] (sh, i, l, r, t) = some (some (vI (z_at L i x)), (sh, i, l, r, t)) := by
  unfold z_at
  have hb : px_X d 236 (0, [vR 0, vI x], []) (sh, i, l, r, t) = if (L : Int) ≤ x then some (some (vI 0), (sh, i, l, r, t)) else some (some (vI (i 0 x)), (sh, i, l, r, t)) := ((xs_ildn k236_0 rfl).trans ((xs_aldn k236_1 rfl).trans ((xs_aln k236_2 h0).trans ((xs_jge k236_3).trans (px_ite (fun c1 => ((xs_ic k236_12 (by omega)).trans (xs_ri k236_13 rfl))) (fun c1 => ((xs_aldn k236_6 rfl).trans ((xs_ildn k236_7 rfl).trans ((xs_iald k236_8 h0 ⟨hx, by omega⟩).trans ((xs_goto k236_9).trans (xs_ri k236_13 rfl)))))))))))
  rw [e236, hb]
  split <;> rfl
end PXG
