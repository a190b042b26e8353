/-! Perches given: the class's places. -/
theorem tg_wr_p {i : MI} {lv : Int} {who pl pl' : Int → Int} : ∀ (n : Nat) (k s : Int) (room : Int → Int), (∀ x, k ≤ x → x < k + n → pl' x = pl x) → tg_wr i lv who pl' n k room s = tg_wr i lv who pl n k room s
  | 0, _, _, _, _ => rfl
  | n + 1, k, s, room, h => by
    unfold tg_wr
    rw [h k (by omega) (by omega), tg_wr_p n (k + 1) _ _ (fun x x0 x1 => h x (by omega) (by omega))]
def tg_gs (i : MI) (lv : Int) (who : Int → Int) : Nat → Int → Int → (Int → Int) → Int → Int → Int
  | 0, _, _, _, _ => fun _ => 8
  | n + 1, k, X, room, D => fun x => if x = k then tg_pl i lv (who k) (px_and X (px_xor (px_shl 1 (who k)) (-1))) room D (tg_L i X D)
      else tg_gs i lv who n (k + 1) (px_and X (px_xor (px_shl 1 (who k)) (-1))) (fun y => if y = tg_pl i lv (who k) (px_and X (px_xor (px_shl 1 (who k)) (-1))) room D (tg_L i X D) then room y - 1 else room y)
        (if tg_dp i lv (tg_pl i lv (who k) (px_and X (px_xor (px_shl 1 (who k)) (-1))) room D (tg_L i X D)) = true then D - 1 else D) x
/-- the class's places fit and leave wet what leastWet says -/
theorem tg_gs_wr {i : MI} (hQ : ty_HG i) {who : Int → Int} {lv : Int} (hlv : 0 ≤ lv) : ∀ (n : Nat) (k s X D : Int) (room : Int → Int), (0 ≤ X ∧ X < 1024) → tg_set X who n k → (∀ x, k ≤ x → x < k + n → 0 ≤ who x ∧ who x < i 124 4) → (∀ x y, k ≤ x → x < y → y < k + n → who x ≠ who y) → (∀ x, i 124 3 ≤ x → x < 8 → room x ≤ 0) → (∀ x, 0 ≤ x → x < 8 → 0 ≤ room x) → tg_rel i lv n room D →
    tg_wr i lv who (tg_gs i lv who n k X room D) n k room s = s + tg_L i X D
  | 0, k, s, X, D, room, hX, hset, hw, hi, hz, hr, hrel => by
    have e := tg_L_z hQ (who := who) 0 k X (max D 0) hX hset hw hi (by omega)
    have b4 := hQ.1
    have ho : ∀ x : Int, 0 ≤ x → x < i 124 4 → 0 ≤ i 17 x ∧ i 17 x < i 124 4 := hQ.2.2.2.2.1
    have e2 : tg_L i X D = 0 := tg_lw_e _ _ _ (fun x x0 x1 => by
      have hx := ho x x0 (by omega)
      cases hb : ty_bit X (i 17 x) with
      | false => rfl
      | true =>
        obtain ⟨y, y0, y1, -⟩ := (hset (i 17 x) hx.1 (by omega)).mp hb
        omega)
    rw [e2]
    show s = s + 0
    omega
  | n + 1, k, s, X, D, room, hX, hset, hw, hi, hz, hr, hrel => by
    have b4 := hQ.1
    have b3 := hQ.2.1.2
    have hk := hw k (Int.le_refl k) (by omega)
    have hwk : 0 ≤ who k ∧ who k < 10 := by omega
    have hrm := (th_rm (X := X) (k := who k) hX hwk).1
    obtain ⟨s1, s2⟩ := tg_step hQ hX hset hw hi hz hr hrel hlv
    have hset' := tg_set_s hX hset hwk (fun x x0 x1 e => hi k x (Int.le_refl k) x0 x1 e.symm)
    obtain ⟨X', hX'⟩ : ∃ X', X' = px_and X (px_xor (px_shl 1 (who k)) (-1)) := ⟨_, rfl⟩
    obtain ⟨pl, hpl⟩ : ∃ pl, pl = tg_pl i lv (who k) X' room D (tg_L i X D) := ⟨_, rfl⟩
    have egs : tg_gs i lv who (n + 1) k X room D = fun x => if x = k then pl else tg_gs i lv who n (k + 1) X' (fun y => if y = pl then room y - 1 else room y) (if tg_dp i lv pl = true then D - 1 else D) x := by
      rw [hpl, hX']
      rfl
    rw [← hX', ← hpl] at s1 s2
    rw [← hX'] at hset' hrm
    have hplb : 0 ≤ pl ∧ pl < 9 := by
      rcases tg_pf_b (room := room) (dry := tg_dr i lv) (own := tg_w i (who k)) (D := D) (wet := tg_L i X D) (Lw := tg_L i X') (i 124 3).toNat 0 (Int.le_refl 0) with e | ⟨a, b, -⟩
      · have e' : pl = 8 := hpl.trans e
        omega
      · have e' : tg_pf room (tg_dr i lv) (tg_w i (who k)) (tg_L i X') D (tg_L i X D) (i 124 3).toNat 0 = pl := hpl.symm
        omega
    have ih := tg_gs_wr hQ hlv n (k + 1) (if tg_dp i lv pl = true then s else s + tg_w i (who k)) X' (if tg_dp i lv pl = true then D - 1 else D) (fun y => if y = pl then room y - 1 else room y) hrm hset' (fun x x0 x1 => hw x (by omega) (by omega)) (fun x y x0 xy y1 => hi x y (by omega) xy (by omega)) (fun x x0 x1 => by
      have := hz x x0 x1
      show (if x = pl then room x - 1 else room x) ≤ 0
      split <;> omega) (fun x x0 x1 => by
      have := hr x x0 x1
      show 0 ≤ if x = pl then room x - 1 else room x
      by_cases e : x = pl
      · rw [if_pos e]
        rcases s1 with a | a
        · omega
        · rw [← e] at a
          omega
      · rw [if_neg e]
        exact this) (tg_rel_s hrel hplb)
    have e1 : tg_gs i lv who (n + 1) k X room D k = pl := by
      rw [egs]
      exact if_pos rfl
    have e2 : ∀ s' room', tg_wr i lv who (tg_gs i lv who (n + 1) k X room D) n (k + 1) room' s' = tg_wr i lv who (tg_gs i lv who n (k + 1) X' (fun y => if y = pl then room y - 1 else room y) (if tg_dp i lv pl = true then D - 1 else D)) n (k + 1) room' s' := fun s' room' => tg_wr_p n (k + 1) s' room' (fun x x0 x1 => by
      rw [egs]
      exact if_neg (by omega))
    show (if tg_gs i lv who (n + 1) k X room D k = 8 ∨ 0 < room (tg_gs i lv who (n + 1) k X room D k) then tg_wr i lv who (tg_gs i lv who (n + 1) k X room D) n (k + 1) (fun y => if y = tg_gs i lv who (n + 1) k X room D k then room y - 1 else room y) (if tg_dp i lv (tg_gs i lv who (n + 1) k X room D k) = true then s else s + tg_w i (who k)) else -1) = _
    rw [e1, if_pos s1, e2, ih]
    by_cases cd : tg_dp i lv pl = true
    · rw [if_pos cd] at s2
      rw [if_pos cd, if_pos cd, s2]
    · rw [if_neg cd] at s2
      rw [if_neg cd, if_neg cd]
      omega
