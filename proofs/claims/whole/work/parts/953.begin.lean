/-! The law's start: both objects made. -/
theorem k243_0 : px_cod 243 0 = some ((.new 7), 3, [0, 0], 0) := rfl
theorem k243_3 : px_cod 243 3 = some (.dup, 1, [], 0) := rfl
theorem k243_4 : px_cod 243 4 = some ((.aload_n 0), 1, [], 0) := rfl
theorem k243_5 : px_cod 243 5 = some ((.iconst 0), 1, [], 0) := rfl
theorem k243_6 : px_cod 243 6 = some ((.invokestatic 9), 3, [0, 204, 236], 0) := rfl
theorem k243_9 : px_cod 243 9 = some ((.aload_n 0), 1, [], 0) := rfl
theorem k243_10 : px_cod 243 10 = some ((.iconst 1), 1, [], 1) := rfl
theorem k243_11 : px_cod 243 11 = some ((.invokestatic 9), 3, [0, 204, 236], 0) := rfl
theorem k243_14 : px_cod 243 14 = some ((.invokespecial 15), 3, [0, 0, 0], 0) := rfl
theorem k243_17 : px_cod 243 17 = some ((.astore_n 1), 1, [], 1) := rfl
theorem k243_18 : px_cod 243 18 = some ((.new 18), 3, [13, 12], 0) := rfl
theorem k243_21 : px_cod 243 21 = some (.dup, 1, [], 0) := rfl
theorem k243_22 : px_cod 243 22 = some ((.aload_n 0), 1, [], 0) := rfl
theorem k243_23 : px_cod 243 23 = some ((.iconst 0), 1, [], 0) := rfl
theorem k243_24 : px_cod 243 24 = some ((.invokestatic 9), 3, [0, 204, 236], 0) := rfl
theorem k243_27 : px_cod 243 27 = some ((.aload_n 0), 1, [], 0) := rfl
theorem k243_28 : px_cod 243 28 = some ((.iconst 1), 1, [], 1) := rfl
theorem k243_29 : px_cod 243 29 = some ((.invokestatic 9), 3, [0, 204, 236], 0) := rfl
theorem k243_32 : px_cod 243 32 = some ((.invokespecial 20), 3, [0, 205, 140], 0) := rfl
theorem k243_35 : px_cod 243 35 = some ((.astore_n 2), 1, [], 2) := rfl
theorem k140_379 : px_cod 140 379 = some (.return_, 1, [], 0) := rfl
set_option maxRecDepth 20000 in
theorem px_T159 (L : Nat) : px_T L 159 = px_sh L := by
  unfold px_T
  exact List.take_of_length_le (by rw [px_Tlen]; exact Nat.le_refl _)
theorem px_T3 (L : Nat) : px_T L 3 = [.inr (0, L), .inr (0, 6), .inl 99] := rfl
def zIm (w h : Int) (i : MI) : MI := zI140_123 w h (px_un (zI0_3 w h (px_un i 3 (fun _ => 0))) 123 (fun _ => 0))
def zLm (w h : Int) (l : MI) : MI := zL140_123 w h (px_un (zL0_3 w h (px_un l 3 (fun _ => 0))) 123 (fun _ => 0))
def zRm (r : MR) : MR := zR140_123 (px_un (zR0_3 (px_un r 3 (fun _ => none))) 123 (fun _ => none))
def zTm (t : Nat) : Nat := zT140_123 (zT0_3 (t + px_nf 0) + px_nf 12)
/-- the reference, made -/
theorem z140 {L : Nat} (d : Nat) (i l : MI) (r : MR) (t : Nat) (w h : Int) (hr : px_hr (zR140_123 r)) : ∃ i1 : MI, px_C (d + 1) 140 [vR 123, vI w, vI h] (px_T L 124, i, l, r, t) = some (none, (px_sh L, i1, zL140_123 w h l, zR140_123 r, zT140_123 t)) ∧ ty_ch [125] (zI140_123 w h i) i1 ∧ ∀ x, i1 125 x = if 0 ≤ x ∧ x < 820 then zI140_123 w h i 124 x else zI140_123 w h i 125 x := by
  obtain ⟨i1, r1, c1, p1⟩ := ty_cpo (L := L) (r := zR140_123 r) (t := zT140_123 t) hr d (zL140_123 w h l) 820 (zI140_123 w h i) 0 (by decide) (by decide)
  have hc : px_C d 142 [vR 123, vI 1] (px_sh L, zI140_123 w h i, zL140_123 w h l, zR140_123 r, zT140_123 t) = some (none, (px_sh L, i1, zL140_123 w h l, zR140_123 r, zT140_123 t)) := by
    rw [e142, b142_0 hr, r1]
  refine ⟨i1, ?_, c1, p1⟩
  rw [zc140_123 d i l r t w h, px_T159]
  exact (xs_callv (as := [vI 1]) k140_376 rfl rfl (Nat.le_of_ble_eq_true rfl) (Nat.le_of_ble_eq_true rfl) (Nat.le_of_ble_eq_true rfl) (px_s123 L) (Nat.le_of_ble_eq_true rfl) hc).trans (xs_rv k140_379 rfl)
set_option maxRecDepth 20000 in
/-- both objects made -/
theorem z_start {L : Nat} (d : Nat) (i l : MI) (r : MR) (t : Nat) (hr : px_hr (zRm r)) : ∃ i1 : MI, px_X (d + 3) 243 (0, [vR 0, vJ, vJ, vJ], []) (px_T L 3, i, l, r, t) = px_X (d + 3) 243 (38, [vR 0, vR 3, vR 123, vI 2], []) (px_sh L, i1, zLm (z_at L i 0) (z_at L i 1) l, zRm r, zTm t) ∧ ty_ch [125] (zIm (z_at L i 0) (z_at L i 1) i) i1 ∧ ∀ x, i1 125 x = if 0 ≤ x ∧ x < 820 then zIm (z_at L i 0) (z_at L i 1) i 124 x else zIm (z_at L i 0) (z_at L i 1) i 125 x := by
  have hH : 0 ≤ zmm (z_at L i 1) ∧ zmm (z_at L i 1) ≤ 1000 := by
    rw [zmm_cl]
    have := zcl_b (z_at L i 1)
    omega
  obtain ⟨i1, r1, c1, p1⟩ := z140 (L := L) (d + 1) (px_un (zI0_3 (z_at L i 0) (z_at L i 1) (px_un i 3 (fun _ => 0))) 123 (fun _ => 0)) (px_un (zL0_3 (z_at L i 0) (z_at L i 1) (px_un l 3 (fun _ => 0))) 123 (fun _ => 0)) (px_un (zR0_3 (px_un r 3 (fun _ => none))) 123 (fun _ => none)) (zT0_3 (t + px_nf 0) + px_nf 12) (z_at L i 0) (z_at L i 1) hr
  exact ⟨i1, ((xs_newT k243_0 (px_s3 L) (Nat.le_of_ble_eq_true rfl)).trans ((xs_dup k243_3 rfl).trans ((xs_aldn k243_4 rfl).trans ((xs_ic k243_5 (by decide)).trans ((xs_calls (as := [vR 0, vI 0]) k243_6 rfl rfl (Nat.le_of_ble_eq_true rfl) (Nat.le_of_ble_eq_true rfl) (Nat.le_of_ble_eq_true rfl) (z236 _ _ _ _ _ (px_Tk (px_s0 L) (Nat.le_of_ble_eq_true rfl)) 0 (by decide))).trans ((xs_aldn k243_9 rfl).trans ((xs_ic k243_10 (by decide)).trans ((xs_calls (as := [vR 0, vI 1]) k243_11 rfl rfl (Nat.le_of_ble_eq_true rfl) (Nat.le_of_ble_eq_true rfl) (Nat.le_of_ble_eq_true rfl) (z236 _ _ _ _ _ (px_Tk (px_s0 L) (Nat.le_of_ble_eq_true rfl)) 1 (by decide))).trans ((xs_calli (as := [vI (z_at L i 0), vI (z_at L i 1)]) k243_14 rfl rfl (Nat.le_of_ble_eq_true rfl) (Nat.le_of_ble_eq_true rfl) (Nat.le_of_ble_eq_true rfl) (px_Tk (px_s3 L) (Nat.le_of_ble_eq_true rfl)) (Nat.le_of_ble_eq_true rfl) (zc0_3 d _ _ _ _ (z_at L i 0) (z_at L i 1) hH)).trans ((xs_astn k243_17 (Nat.le_of_ble_eq_true rfl) (ls' := [vR 0, vR 3, vJ, vJ]) rfl).trans ((xs_newT k243_18 (px_s123 L) (Nat.le_of_ble_eq_true rfl)).trans ((xs_dup k243_21 rfl).trans ((xs_aldn k243_22 rfl).trans ((xs_ic k243_23 (by decide)).trans ((xs_calls (as := [vR 0, vI 0]) k243_24 rfl rfl (Nat.le_of_ble_eq_true rfl) (Nat.le_of_ble_eq_true rfl) (Nat.le_of_ble_eq_true rfl) (z236 _ _ _ _ _ (px_Tk (px_s0 L) (Nat.le_of_ble_eq_true rfl)) 0 (by decide))).trans ((xs_aldn k243_27 rfl).trans ((xs_ic k243_28 (by decide)).trans ((xs_calls (as := [vR 0, vI 1]) k243_29 rfl rfl (Nat.le_of_ble_eq_true rfl) (Nat.le_of_ble_eq_true rfl) (Nat.le_of_ble_eq_true rfl) (z236 _ _ _ _ _ (px_Tk (px_s0 L) (Nat.le_of_ble_eq_true rfl)) 1 (by decide))).trans ((xs_calli (as := [vI (z_at L i 0), vI (z_at L i 1)]) k243_32 rfl rfl (Nat.le_of_ble_eq_true rfl) (Nat.le_of_ble_eq_true rfl) (Nat.le_of_ble_eq_true rfl) (px_Tk (px_s123 L) (Nat.le_of_ble_eq_true rfl)) (Nat.le_of_ble_eq_true rfl) r1).trans ((xs_astn k243_35 (Nat.le_of_ble_eq_true rfl) (ls' := [vR 0, vR 3, vR 123, vJ]) rfl).trans ((xs_ic k243_36 (by decide)).trans (xs_istn k243_37 (Nat.le_of_ble_eq_true rfl) (ls' := [vR 0, vR 3, vR 123, vI 2]) rfl)))))))))))))))))))))), c1, p1⟩
