/-! Perches given: deal (108). -/
theorem tg_pf_c {room room' : Int → Int} {dry : Int → Bool} {own D wet : Int} {Lw : Int → Int} : ∀ (n : Nat) (p : Int), (∀ x, p ≤ x → x < p + n → room' x = room x) → tg_pf room' dry own Lw D wet n p = tg_pf room dry own Lw D wet n p
  | 0, _, _ => rfl
  | n + 1, p, h => by
    unfold tg_pf
    rw [h p (by omega) (by omega), tg_pf_c n (p + 1) (fun x x0 x1 => h x (by omega) (by omega))]
theorem tg_pf_b {room : Int → Int} {dry : Int → Bool} {own D wet : Int} {Lw : Int → Int} : ∀ (n : Nat) (p : Int), 0 ≤ p → tg_pf room dry own Lw D wet n p = 8 ∨ (p ≤ tg_pf room dry own Lw D wet n p ∧ tg_pf room dry own Lw D wet n p < p + n ∧ 0 < room (tg_pf room dry own Lw D wet n p))
  | 0, _, _ => Or.inl rfl
  | n + 1, p, h => by
    unfold tg_pf
    by_cases c : 0 < room p ∧ (if dry p = true then Lw (D - 1) else own + Lw D) ≤ wet
    · rw [if_pos c]
      exact Or.inr ⟨by omega, by omega, c.1⟩
    · rw [if_neg c]
      rcases tg_pf_b (room := room) (dry := dry) (own := own) (D := D) (wet := wet) (Lw := Lw) n (p + 1) (by omega) with e | ⟨a, b, c⟩
      · exact Or.inl e
      · exact Or.inr ⟨by omega, by omega, c⟩
/-- the place given to g, X the others left -/
def tg_pl (i : MI) (lv g X : Int) (room : Int → Int) (D wet : Int) : Int := tg_pf room (tg_dr i lv) (tg_w i g) (tg_L i X) D wet (i 124 3).toNat 0
def tg_dp (i : MI) (lv p : Int) : Bool := if p = 8 then decide (lv ≤ 0) else tg_dr i lv p
def tg_dl (i : MI) (lv guest : Int) : Nat → Int → Int → (Int → Int) → Int → Int → Int
  | 0, _, _, _, _, _ => -1
  | n + 1, g, X, room, D, wet => if ty_bit X g = true then
      (if g = guest then tg_pl i lv g (px_and X (px_xor (px_shl 1 g) (-1))) room D wet
       else tg_dl i lv guest n (g + 1) (px_and X (px_xor (px_shl 1 g) (-1))) (fun y => if y = tg_pl i lv g (px_and X (px_xor (px_shl 1 g) (-1))) room D wet then room y - 1 else room y)
         (if tg_dp i lv (tg_pl i lv g (px_and X (px_xor (px_shl 1 g) (-1))) room D wet) = true then D - 1 else D)
         (if tg_dp i lv (tg_pl i lv g (px_and X (px_xor (px_shl 1 g) (-1))) room D wet) = true then wet else wet - tg_w i g))
    else tg_dl i lv guest n (g + 1) X room D wet
theorem tg_dl_c {i : MI} {lv guest : Int} (h8 : i 124 3 ≤ 8) : ∀ (n : Nat) (g X D wet : Int) (room room' : Int → Int), (∀ x, 0 ≤ x → x < 8 → room' x = room x) → tg_dl i lv guest n g X room' D wet = tg_dl i lv guest n g X room D wet
  | 0, _, _, _, _, _, _, _ => rfl
  | n + 1, g, X, D, wet, room, room', h => by
    have e : ∀ X', tg_pl i lv g X' room' D wet = tg_pl i lv g X' room D wet := fun X' => tg_pf_c _ _ (fun x x0 x1 => h x x0 (by omega))
    unfold tg_dl
    rw [e, tg_dl_c h8 n (g + 1) X D wet room room' h]
    rw [tg_dl_c h8 n (g + 1) (px_and X (px_xor (px_shl 1 g) (-1))) _ _ (fun y => if y = tg_pl i lv g (px_and X (px_xor (px_shl 1 g) (-1))) room D wet then room y - 1 else room y) (fun y => if y = tg_pl i lv g (px_and X (px_xor (px_shl 1 g) (-1))) room D wet then room' y - 1 else room' y) (fun x x0 x1 => by
      show (if x = _ then room' x - 1 else room' x) = (if x = _ then room x - 1 else room x)
      rw [h x x0 x1])]
section TGE
variable {L t : Nat} {r : MR}
theorem tg_L_c {i j : MI} (h17 : j 17 = i 17) (h124 : j 124 = i 124) : tg_L j = tg_L i := by
  funext X D
  unfold tg_L tg_w th_rk
  rw [h17, h124]
theorem tg_108_n (hr : px_hr r) (d : Nat) (i0 l : MI) (x1 lv guest : Int) (hQ0 : ty_HG i0) (hlv : 0 ≤ lv ∧ lv ≤ 999) : ∀ (n : Nat) (i : MI) (g X wet : Int) (room : Int → Int) (v7 v8 : PV), px_nl v7 → px_nl v8 → ty_ch [116, 117] i0 i → (0 ≤ X ∧ X < 1024) → 0 ≤ g → g + n = i0 124 4 → (-g ≤ i 116 4 ∧ i 116 4 ≤ 500) → (-(10 * g) ≤ wet ∧ wet ≤ 100) → (∀ x, 0 ≤ x → x < 8 → i 117 x = room x ∧ -g ≤ room x ∧ room x ≤ 100) →
    ∃ i1 : MI, px_X (d + 1 + 1 + 1 + 1) 108 (46, [vR 116, vI x1, vI guest, vI lv, vI X, vI wet, vI g, v7, v8], []) (px_sh L, i, l, r, t) = some (some (vI (tg_dl i0 lv guest n g X room (i 116 4) wet)), (px_sh L, i1, l, r, t)) ∧ ty_ch [116, 117] i0 i1
  | 0, i, g, X, wet, room, v7, v8, hn7, hn8, hc, hX, hg, hn, hD, hw, hro => by
    have b4 := hQ0.1
    refine ⟨i, ?_, hc⟩
    rw [b108_46 hr _ _ _ _ _ _ _ _ _ hn7 hn8, if_pos (by rw [hc 4 (by decide)]; omega)]
    rfl
  | n + 1, i, g, X, wet, room, v7, v8, hn7, hn8, hc, hX, hg, hn, hD, hw, hro => by
    have b4 := hQ0.1
    have b3 := hQ0.2.1
    have hQ : ty_HG i := ty_HG_ch hQ0 hc rfl
    have e124 : i 124 = i0 124 := hc 124 (by decide)
    have e17 : i 17 = i0 17 := hc 17 (by decide)
    have wg : px_w32 (g + 1) = g + 1 := ty_w (by omega)
    have e65 : px_X (d + 1 + 1 + 1 + 1) 108 (46, [vR 116, vI x1, vI guest, vI lv, vI X, vI wet, vI g, v7, v8], []) (px_sh L, i, l, r, t) = px_X (d + 1 + 1 + 1 + 1) 108 (65, [vR 116, vI x1, vI guest, vI lv, vI X, vI wet, vI g, v7, v8], [vI (px_bi (0 ≤ g ∧ g < 31 ∧ ty_bit X g = true))]) (px_sh L, i, l, r, t) := by
      rw [b108_46 hr _ _ _ _ _ _ _ _ _ hn7 hn8, if_neg (by rw [hc 4 (by decide)]; omega), q32 hr _ _ _ _ _ hX.1 (by omega), Option.bind_some, px_psh_some]
    by_cases hb : ty_bit X g = true
    · have hrm := th_rm (X := X) (k := g) hX (by omega)
      obtain ⟨X', hX'⟩ : ∃ X', X' = px_and X (px_xor (px_shl 1 g) (-1)) := ⟨_, rfl⟩
      rw [← hX'] at hrm
      obtain ⟨pl, hpl⟩ : ∃ pl, pl = tg_pl i0 lv g X' room (i 116 4) wet := ⟨_, rfl⟩
      have hplb := tg_pf_b (room := room) (dry := tg_dr i0 lv) (own := tg_w i0 g) (D := i 116 4) (wet := wet) (Lw := tg_L i0 X') (i0 124 3).toNat 0 (by omega)
      have hplb : pl = 8 ∨ (0 ≤ pl ∧ pl < i0 124 3) := by
        rcases hplb with e | ⟨a, b, -⟩
        · exact Or.inl (hpl.trans e)
        · refine Or.inr ⟨?_, ?_⟩
          · rw [hpl]
            exact a
          · rw [hpl]
            show tg_pf room (tg_dr i0 lv) (tg_w i0 g) (tg_L i0 X') (i 116 4) wet (i0 124 3).toNat 0 < _
            omega
      have h111 : px_C (d + 1 + 1 + 1) 111 [vR 116, vI g, vI X', vI lv, vI wet] (px_sh L, i, l, r, t) = some (some (vI pl), (px_sh L, i, l, r, t)) := by
        have h := tg_111_n (L := L) (r := r) (t := t) hr d i l g X' lv wet hrm.1 hQ ⟨hg, by rw [e124]; omega⟩ (by omega) (i 124 3).toNat 0 vJ vJ px_nl_J px_nl_J (by omega) (by rw [e124]; omega)
        rw [e111, b111_0 hr, h, tg_L_c e17 e124, e124]
        have ew : tg_w i g = tg_w i0 g := by
          unfold tg_w th_rk
          rw [e124]
        rw [ew, hpl]
        have e := tg_pf_c (room := room) (room' := i 117) (dry := tg_dr i0 lv) (own := tg_w i0 g) (D := i 116 4) (wet := wet) (Lw := tg_L i0 X') (i0 124 3).toNat 0 (fun x x0 x1 => (hro x x0 (by omega)).1)
        show some (some (vI (tg_pf (i 117) (tg_dr i0 lv) (tg_w i0 g) (tg_L i0 X') (i 116 4) wet (i0 124 3).toNat 0)), _) = _
        rw [e]
        rfl
      have e93 : px_X (d + 1 + 1 + 1 + 1) 108 (46, [vR 116, vI x1, vI guest, vI lv, vI X, vI wet, vI g, v7, v8], []) (px_sh L, i, l, r, t) = px_X (d + 1 + 1 + 1 + 1) 108 (93, [vR 116, vI x1, vI guest, vI lv, vI X', vI wet, vI g, v7, v8], [vI pl]) (px_sh L, i, l, r, t) := by
        rw [e65, b108_65 hr _ _ _ _ _ _ _ _ _ hn7 hn8, px_bi_T ⟨by omega, by omega, hb⟩, if_neg (by omega), ← hX', h111, Option.bind_some, px_psh_some]
      have edl : tg_dl i0 lv guest (n + 1) g X room (i 116 4) wet = if g = guest then pl else tg_dl i0 lv guest n (g + 1) X' (fun y => if y = pl then room y - 1 else room y) (if tg_dp i0 lv pl = true then i 116 4 - 1 else i 116 4) (if tg_dp i0 lv pl = true then wet else wet - tg_w i0 g) := by
        show (if ty_bit X g = true then _ else _) = _
        rw [if_pos hb, ← hX', ← hpl]
      rw [edl]
      by_cases hgg : g = guest
      · refine ⟨i, ?_, hc⟩
        rw [e93, b108_93 hr _ _ _ _ _ _ _ _ _ hn7 hn8, if_pos hgg, if_pos hgg]
      · rw [if_neg hgg]
        have hw1 : tg_w i g = tg_w i0 g := by
          unfold tg_w th_rk
          rw [e124]
        have hwb : tg_w i0 g = th_rk i0 g + 1 := rfl
        have hrk := (th_rk_b hQ0 (g := g) ⟨hg, by omega⟩).2
        have hhi : ty_at (i 14) 8 pl = if pl = 8 then 0 else i0 124 (100 + 2 * pl) := by
          rcases hplb with e | e
          · rw [e, if_pos rfl]
            rfl
          · rw [ty_at_in (by omega), if_neg (by omega), hc 14 (by decide)]
            exact (hQ0.2.2.1 pl e.1 e.2).1.1
        have hdp : tg_dp i0 lv pl = true ↔ ¬ (if pl = 8 then 0 else i0 124 (100 + 2 * pl)) < lv := by
          unfold tg_dp
          by_cases c8 : pl = 8
          · rw [if_pos c8, if_pos c8, decide_eq_true_iff]
            omega
          · rw [if_neg c8, if_neg c8]
            show decide (lv ≤ i0 124 (100 + 2 * pl)) = true ↔ _
            rw [decide_eq_true_iff]
            omega
        obtain ⟨D', hD'⟩ : ∃ D', D' = if tg_dp i0 lv pl = true then i 116 4 - 1 else i 116 4 := ⟨_, rfl⟩
        obtain ⟨wet', hwet'⟩ : ∃ wet', wet' = if tg_dp i0 lv pl = true then wet else wet - tg_w i0 g := ⟨_, rfl⟩
        have hD'b : i 116 4 - 1 ≤ D' ∧ D' ≤ i 116 4 := by
          rw [hD']
          split <;> omega
        have hwet'b : wet - 10 ≤ wet' ∧ wet' ≤ wet := by
          rw [hwet']
          split <;> omega
        obtain ⟨dv, hdv⟩ : ∃ dv : Int, dv = if tg_dp i0 lv pl = true then 1 else 0 := ⟨_, rfl⟩
        have e161 : px_X (d + 1 + 1 + 1 + 1) 108 (46, [vR 116, vI x1, vI guest, vI lv, vI X, vI wet, vI g, v7, v8], []) (px_sh L, i, l, r, t) = px_X (d + 1 + 1 + 1 + 1) 108 (161, [vR 116, vI x1, vI guest, vI lv, vI X', vI wet', vI g, vI pl, vI dv], [vI dv, vI (i 116 4), vR 116]) (px_sh L, i, l, r, t) := by
          rw [e93, b108_93 hr _ _ _ _ _ _ _ _ _ hn7 hn8, if_neg hgg, q56 hr, hhi, Option.bind_some, px_psh_some, b108_113 hr _ _ _ _ _ _ _ _ _ _ hn8]
          by_cases c : (if pl = 8 then 0 else i0 124 (100 + 2 * pl)) < lv
          · rw [if_neg (fun h => (hdp.mp h) c)] at hdv hwet'
            rw [if_pos c, b108_122 hr _ _ _ _ _ _ _ _ _ _ hn8, if_pos rfl, tg_112 hr (d + 1 + 1) i l g hQ ⟨hg, by rw [e124]; omega⟩, Option.bind_some, px_psh_some, hw1, b108_143 hr, if_pos rfl, ty_w (x := wet - tg_w i0 g) (by omega), hdv, hwet']
          · rw [if_pos (hdp.mpr c)] at hdv hwet'
            rw [if_neg c, b108_122 hr _ _ _ _ _ _ _ _ _ _ hn8, if_neg (by decide), b108_143 hr, if_neg (by decide), ty_w (x := wet - 0) (by omega), hdv, hwet', Int.sub_zero]
        have hdD : px_w32 (i 116 4 - dv) = D' := by
          rw [hdv, hD']
          split
          · exact ty_w (by omega)
          · rw [Int.sub_zero]
            exact ty_w (by omega)
        obtain ⟨ia, hia⟩ : ∃ ia : MI, ia = px_up i 116 4 D' := ⟨_, rfl⟩
        have ca : ty_ch [116, 117] i0 ia := by
          rw [hia]
          exact ty_ch_tr hc (ty_ch_up (S := [116]) (by decide)) rfl rfl
        obtain ⟨ib, hib⟩ : ∃ ib : MI, ib = if 0 ≤ pl ∧ pl < ((8 : Nat) : Int) then px_up ia 117 pl (px_w32 (ty_at (ia 117) 8 pl - 1)) else ia := ⟨_, rfl⟩
        have cb : ty_ch [116, 117] i0 ib := by
          rw [hib]
          split
          · exact ty_ch_tr ca (ty_ch_up (S := [117]) (by decide)) rfl rfl
          · exact ca
        have ia117 : ia 117 = i 117 := by rw [hia, ty_up_row (by decide)]
        have ib4 : ib 116 4 = D' := by
          rw [hib]
          split
          · rw [ty_up_row (by decide), hia, ty_up_eq]
          · rw [hia, ty_up_eq]
        obtain ⟨i1, r1, c1⟩ := tg_108_n hr d i0 l x1 lv guest hQ0 hlv n ib (g + 1) X' wet' (fun y => if y = pl then room y - 1 else room y) (vI pl) (vI dv) (px_nl_I _) (px_nl_I _) cb hrm.1 (by omega) (by omega) (by rw [ib4]; omega) (by omega) (fun x x0 x1 => by
          have h := hro x x0 x1
          show ib 117 x = (if x = pl then room x - 1 else room x) ∧ -(g + 1) ≤ (if x = pl then room x - 1 else room x) ∧ (if x = pl then room x - 1 else room x) ≤ 100
          by_cases ex : x = pl
          · have e1 : ib 117 x = room x - 1 := by
              rw [hib, if_pos (by omega), ex, ty_up_eq, ty_at_in (by omega), ia117, ← ex, h.1, ty_w (by omega)]
            rw [if_pos ex, e1]
            exact ⟨rfl, by omega, by omega⟩
          · have e1 : ib 117 x = room x := by
              rw [hib]
              split
              · rw [ty_up_j ex, ia117, h.1]
              · rw [ia117, h.1]
            rw [if_neg ex, e1]
            exact ⟨rfl, by omega, by omega⟩)
        refine ⟨i1, ?_, c1⟩
        rw [ib4] at r1
        rw [e161, b108_161 hr, hdD, ← hia, q33 hr _ _ _ (px_s117 L) (Nat.le_of_ble_eq_true rfl), Option.bind_some, px_psh_some, b108_180 hr, q34 hr _ _ _ (px_s117 L) (Nat.le_of_ble_eq_true rfl), Option.bind_some, px_psh_none, ← hib, b108_185 hr, wg, r1, ← hD', ← hwet']
    · have edl : tg_dl i0 lv guest (n + 1) g X room (i 116 4) wet = tg_dl i0 lv guest n (g + 1) X room (i 116 4) wet := by
        show (if ty_bit X g = true then _ else _) = _
        rw [if_neg hb]
      obtain ⟨i1, r1, c1⟩ := tg_108_n hr d i0 l x1 lv guest hQ0 hlv n i (g + 1) X wet room v7 v8 hn7 hn8 hc hX (by omega) (by omega) (by omega) (by omega) (fun x x0 x1 => by have h := hro x x0 x1; exact ⟨h.1, by omega, h.2.2⟩)
      refine ⟨i1, ?_, c1⟩
      rw [e65, b108_65 hr _ _ _ _ _ _ _ _ _ hn7 hn8, px_bi_F (fun h => hb h.2.2), if_pos rfl, wg, r1, edl]
end TGE
