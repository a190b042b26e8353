/-! text: readClause, read. -/
def tz_hQ (f g h : Int → Int) : List (Int × List Int) → Prop
  | [] => True
  | (a, C) :: D => (f D.length = a ∧ g D.length = ((tz_gl D).length : Int) ∧ h D.length = (((C ++ tz_gl D).length : Nat) : Int)) ∧ tz_hQ f g h D
theorem tz_hQ_c {f g h f' g' h' : Int → Int} : ∀ {D : List (Int × List Int)}, (∀ x : Int, 0 ≤ x → x < D.length → f' x = f x ∧ g' x = g x ∧ h' x = h x) → tz_hQ f g h D → tz_hQ f' g' h' D
  | [], _, _ => trivial
  | (a, C) :: D, hh, hd => by
    have h1 := hh D.length (by omega) (by rw [List.length_cons]; omega)
    unfold tz_hQ
    rw [h1.1, h1.2.1, h1.2.2]
    exact ⟨hd.1, tz_hQ_c (fun x x0 x1 => hh x x0 (by rw [List.length_cons]; omega)) hd.2⟩
/-- clauses done are right -/
def tz_dd : List (Int × List Int) → Prop
  | [] => True
  | (a, C) :: D => ((0 ≤ a ∧ a ≤ 5) ∧ tz_ck C = some [decide (4 ≤ a)] ∧ tz_mc a C ∧ (a < 4 → tz_was a D = false)) ∧ tz_dd D
def tz_cr (i i1 : MI) : Prop := (∀ k : Nat, k < 58 ∨ 63 < k → i1 k = i k) ∧ (∀ f : Int, f ≠ 3 → f ≠ 4 → f ≠ 9 → f ≠ 10 → f ≠ 11 → f ≠ 12 → i1 58 f = i 58 f) ∧ (i1 58 3 = 0 → i 58 3 = 0 ∧ i1 58 4 = i 58 4)
theorem tz_cr_rf {i : MI} : tz_cr i i := ⟨fun _ _ => rfl, fun _ _ _ _ _ _ _ => rfl, fun h => ⟨h, rfl⟩⟩
theorem tz_cr_tr {i i1 i2 : MI} (h : tz_cr i i1) (h' : tz_cr i1 i2) : tz_cr i i2 := ⟨fun k a => (h'.1 k a).trans (h.1 k a), fun f a b c d e g => (h'.2.1 f a b c d e g).trans (h.2.1 f a b c d e g), fun g => ⟨(h.2.2 (h'.2.2 g).1).1, (h'.2.2 g).2.trans (h.2.2 (h'.2.2 g).1).2⟩⟩
theorem tz_cr_q {i i1 : MI} (h : tz_cq i i1) : tz_cr i i1 := ⟨fun k a => h.1 k (by omega) (by omega) (by omega), fun f a b c d _ _ => h.2.1 f a b c d, h.2.2.2⟩
theorem tz_cr_8 {i : MI} {f v : Int} (h : f = 9 ∨ f = 10 ∨ f = 11 ∨ f = 12) : tz_cr i (px_up i 58 f v) := ⟨fun k a => ty_up_row (by omega), fun g a b c d e x => ty_up_j (by omega), fun g => by
  rw [ty_up_j (by omega)] at g
  rw [ty_up_j (by omega)]
  exact ⟨g, rfl⟩⟩
theorem tz_cr_k {i : MI} {k : Nat} {x v : Int} (h : 58 < k ∧ k ≤ 63) : tz_cr i (px_up i k x v) := ⟨fun k' a => ty_up_row (by omega), fun f _ _ _ _ _ _ => ty_up_k (by omega), fun g => by
  rw [ty_up_k (by omega)] at g
  rw [ty_up_k (by omega)]
  exact ⟨g, rfl⟩⟩
def tz_alw (x : Int) : Int := if x = 0 then 7 else if x = 1 then 1017 else if x = 2 then 14408 else if x = 3 then 16384 else if x = 4 then 1017 else 1065
theorem tz_alw_f : ∀ k : Fin 6, ∀ v : Fin 15, ty_bit (tz_alw (k.val : Int)) (v.val : Int) = tz_mb (k.val : Int) (v.val : Int) := by decide +kernel
theorem tz_alw_b : ∀ k : Fin 6, 0 ≤ tz_alw (k.val : Int) ∧ tz_alw (k.val : Int) < 2147483648 := by decide +kernel
theorem tz_alw_mb {k v : Int} (hk : 0 ≤ k ∧ k < 6) (hv : 0 ≤ v ∧ v < 15) : ty_bit (tz_alw k) v = tz_mb k v := by
  have h := tz_alw_f ⟨k.toNat, by omega⟩ ⟨v.toNat, by omega⟩
  have e1 : ((k.toNat : Nat) : Int) = k := by omega
  have e2 : ((v.toNat : Nat) : Int) = v := by omega
  rw [show ((⟨k.toNat, by omega⟩ : Fin 6).val : Int) = k from e1, show ((⟨v.toNat, by omega⟩ : Fin 15).val : Int) = v from e2] at h
  exact h
theorem tz_alw_r {k : Int} (hk : 0 ≤ k ∧ k < 6) : 0 ≤ tz_alw k ∧ tz_alw k < 2147483648 := by
  have h := tz_alw_b ⟨k.toNat, by omega⟩
  have e1 : ((k.toNat : Nat) : Int) = k := by omega
  rw [show ((⟨k.toNat, by omega⟩ : Fin 6).val : Int) = k from e1] at h
  exact h
/-- the class between clauses -/
def tz_cn (K U PL : Nat → Int) (m t : Nat) (D : List (Int × List Int)) (i : MI) : Prop :=
  ((∀ x : Nat, x ≤ m → i 65 (x : Int) = K x ∧ i 66 (x : Int) = PL x) ∧ ∀ x : Nat, x < m → i 67 (x : Int) = U x) ∧ (i 58 3 = 0 ∧ i 58 9 = (t : Int) ∧ i 58 10 = 0) ∧
  (0 ≤ i 58 12 ∧ i 58 12 < 64 ∧ ∀ v : Int, 0 ≤ v → v < 6 → ty_bit (i 58 12) v = tz_was v D) ∧ (i 59 0 = ((tz_gl D).length : Int) ∧ i 59 1 = (D.length : Int)) ∧ tz_hX (i 60) (tz_gl D) ∧ tz_hQ (i 61) (i 62) (i 63) D ∧ ∀ x : Int, 0 ≤ x → x < 6 → i 1 x = tz_alw x
section TYCL
variable {L tt : Nat} {r : MR} {K U PL : Nat → Int} {m : Nat}
theorem tz_101c (hr : px_hr r) {t : Nat} {D : List (Int × List Int)} (d : Nat) (i l : MI) (e : Int) (he : ¬ e = 0) (h : tz_cn K U PL m t D i) (ht : t ≤ m) (hm : m ≤ 300) :
    ∃ i1 : MI, px_C d 101 [vR 58, vI e] (px_sh L, i, l, r, tt) = some (none, (px_sh L, i1, l, r, tt)) ∧ tz_er e (PL t) i1 ∧ tz_cr i i1 := by
  have h1 := (h.1.1 t ht).2
  obtain ⟨h3, h9, h10⟩ := h.2.1
  have hb := b101_0 (L := L) (t := tt) hr d i l e
  rw [h3, h9, h1] at hb
  refine ⟨px_up (px_up i 58 3 e) 58 4 (PL t), ?_, ⟨?_, ty_up_eq, he⟩, fun k a => ?_, fun f a b _ _ _ _ => ?_, fun g => ?_⟩
  · rw [e101, hb (by intros; omega), if_pos rfl, if_neg (by omega), if_neg (by omega)]
  · rw [ty_up_j (by decide), ty_up_eq]
  · rw [ty_up_row (by omega), ty_up_row (by omega)]
  · rw [ty_up_j b, ty_up_j a]
  · rw [ty_up_j (by decide), ty_up_eq] at g
    exact absurd g he
/-- open -/
theorem tz_136 (hr : px_hr r) (d : Nat) (i l : MI) (x n : Int) (c : Nat) (h0 : i 59 0 = n) (h1 : i 59 1 = (c : Int)) (hc : c < 10) : px_C (d + 1) 136 [vR 59, vI x] (px_sh L, i, l, r, tt) = some (none, (px_sh L, px_up (px_up (px_up (px_up i 61 (c : Int) x) 62 (c : Int) n) 63 (c : Int) n) 59 1 ((c + 1 : Nat) : Int), l, r, tt)) := by
  have w : px_w32 ((c : Int) + 1) = ((c + 1 : Nat) : Int) := by rw [ty_w (by omega)]; omega
  rw [e136, b136_0 hr, h1, q34i hr _ _ _ (px_s61 L) (Nat.le_of_ble_eq_true rfl) _ _ (by omega), Option.bind_some, px_psh_none, b136_12 hr, ty_up_k (by decide), h1, ty_up_k (by decide), h0, q34i hr _ _ _ (px_s62 L) (Nat.le_of_ble_eq_true rfl) _ _ (by omega), Option.bind_some, px_psh_none, b136_27 hr, ty_up_k (by decide), ty_up_k (by decide), h1, ty_up_k (by decide), ty_up_k (by decide), h0, q34i hr _ _ _ (px_s63 L) (Nat.le_of_ble_eq_true rfl) _ _ (by omega), Option.bind_some, px_psh_none, b136_42 hr, ty_up_k (by decide), ty_up_k (by decide), ty_up_k (by decide), h1, w]
/-- the end of readClause behind a fault -/
theorem tz_cl_te (hr : px_hr r) (d : Nat) (i l : MI) (x1 x2 e p : Int) (h : tz_er e p i) : ∃ i1 : MI, px_X (d + 1 + 1) 102 (149, [vR 58, vI x1, vI x2], []) (px_sh L, i, l, r, tt) = some (none, (px_sh L, i1, l, r, tt)) ∧ tz_er e p i1 ∧ tz_cr i i1 := by
  obtain ⟨v, hv⟩ := tz_33k (L := L) (r := r) (tt := tt) hr (d + 1) i l (i 58 9)
  have e169 : ∃ i1 : MI, px_X (d + 1 + 1) 102 (169, [vR 58, vI x1, vI x2], []) (px_sh L, i, l, r, tt) = some (none, (px_sh L, i1, l, r, tt)) ∧ tz_er e p i1 ∧ tz_cr i i1 := by
    rw [b102_169 hr, e137, b137_0 hr, q34 hr _ _ _ (px_s63 L) (Nat.le_of_ble_eq_true rfl), Option.bind_some, px_psh_none, b137_17 hr, Option.bind_some, px_psh_none, b102_176 hr]
    obtain ⟨j, hj⟩ : ∃ j : MI, j = (if 0 ≤ px_w32 (i 59 1 - 1) ∧ px_w32 (i 59 1 - 1) < ((10 : Nat) : Int) then px_up i 63 (px_w32 (i 59 1 - 1)) (i 59 0) else i) := ⟨_, rfl⟩
    rw [← hj]
    have e58 : j 58 = i 58 := by
      rw [hj]
      split
      · rw [ty_up_row (by decide)]
      · rfl
    have cj : tz_cr i j := by
      rw [hj]
      split
      · exact tz_cr_k (by omega)
      · exact tz_cr_rf
    exact ⟨px_up j 58 9 (px_w32 (j 58 9 + 1)), rfl, tz_er_8 ⟨by rw [e58]; exact h.1, by rw [e58]; exact h.2.1, h.2.2⟩ (by decide) (by decide), tz_cr_tr cj (tz_cr_8 (by omega))⟩
  rw [b102_149 hr, hv, Option.bind_some, px_psh_some, b102_160 hr]
  by_cases h5 : v = 5
  · rw [if_pos h5]
    exact e169
  · rw [if_neg h5, tz_101e hr _ _ _ _ e p h, Option.bind_some, px_psh_none]
    exact e169
/-- a clause read -/
def tz_cg (K U PL : Nat → Int) (m : Nat) (A : tz_RS) (t : Nat) (D : List (Int × List Int)) (i1 : MI) : Prop :=
  ∃ (t' : Nat) (D' : List (Int × List Int)) (kd : Int), (t < t' ∧ t' ≤ m) ∧ tz_cn K U PL m t' D' i1 ∧ tz_to K U m A (.inr (t', 0, [], [], 4, [], D', kd)) ∧ (tz_gl D').length ≤ t' ∧ tz_dd D' ∧ D'.length ≤ 10
theorem tz_bd4 {t : Nat} {D : List (Int × List Int)} {kd : Int} (ht : t ≤ m) (hm : m ≤ 300) (hl : (tz_gl D).length ≤ t) (hD : D.length ≤ 10) : tz_bd m (t, 0, [], [], 4, [], D, kd) := by
  have e := tz_fl_len D
  refine ⟨⟨ht, by omega, by omega, by show 0 ≤ 30; omega, by show 0 ≤ 60; omega⟩, ?_, hD, Or.inr ⟨rfl, rfl⟩⟩
  show (tz_fl D).length + 0 + 0 ≤ 380
  omega
/-- the end of a clause -/
theorem tz_cl_t (hr : px_hr r) (hK : tz_tk K U m) (d : Nat) (i l : MI) (t0 t : Nat) (D : List (Int × List Int)) (kd x1 x2 : Int) (C1 : List Int) (A A2 : tz_RS) (hA : tz_to K U m A (.inr A2)) (hA2 : A2.1 = t) (hb2 : tz_bd m A2) (hn2 : ¬ (A2.2.2.2.2.1 = 4 ∧ K A2.1 = 0)) (h5y : K t = 5 → tz_stp K U A2 = .inr (t + 1, 0, [], [], 4, [], (kd, C1) :: D, kd)) (h5n : ¬ K t = 5 → tz_stp K U A2 = .inl 1)
    (h : tz_cm K U PL m kd t 0 (C1 ++ tz_gl D) i) (ht : t0 < t ∧ t ≤ m) (hl : (C1 ++ tz_gl D).length ≤ t) (hk : 0 ≤ kd ∧ kd ≤ 5) (hck : tz_ck C1 = some [decide (4 ≤ kd)]) (hmc : tz_mc kd C1) (hD : D.length < 10) (hdd : tz_dd D) (hwas : kd < 4 → tz_was kd D = false)
    (hq : tz_hQ (i 61) (i 62) (i 63) D) (h61 : i 61 (D.length : Int) = kd) (h62 : i 62 (D.length : Int) = ((tz_gl D).length : Int)) (h59 : i 59 1 = ((D.length + 1 : Nat) : Int)) (h12 : 0 ≤ i 58 12 ∧ i 58 12 < 64 ∧ ∀ v : Int, 0 ≤ v → v < 6 → ty_bit (i 58 12) v = tz_was v ((kd, C1) :: D)) (hal : ∀ x : Int, 0 ≤ x → x < 6 → i 1 x = tz_alw x) :
    ∃ i1 : MI, px_X (d + 1 + 1) 102 (149, [vR 58, vI x1, vI x2], []) (px_sh L, i, l, r, tt) = some (none, (px_sh L, i1, l, r, tt)) ∧ tz_cr i i1 ∧ (tz_cg K U PL m A t0 D i1 ∨ tz_bad K U PL m A i1) := by
  have hm := hK.1
  have hk0 := hK.2.1 t ht.2
  have h33 := tz_33 (L := L) (r := r) (tt := tt) hr (d + 1) i l h ht.2 hm
  by_cases h5 : K t = 5
  · have hlen := h.2.2.2.1
    obtain ⟨j, hj⟩ : ∃ j : MI, j = px_up i 63 (D.length : Int) (((C1 ++ tz_gl D).length : Nat) : Int) := ⟨_, rfl⟩
    have e58 : j 58 = i 58 := by rw [hj, ty_up_row (by decide)]
    refine ⟨px_up j 58 9 ((t + 1 : Nat) : Int), ?_, ?_, Or.inl ⟨t + 1, (kd, C1) :: D, kd, ⟨by omega, by omega⟩, ⟨?_, ⟨?_, ty_up_eq, ?_⟩, ?_, ⟨?_, ?_⟩, ?_, ⟨⟨?_, ?_, ?_⟩, ?_⟩, ?_⟩, tz_to_tr hA (tz_to_s hb2 hn2 (h5y h5) tz_to_rf), ?_, ⟨⟨hk, hck, hmc, hwas⟩, hdd⟩, by rw [List.length_cons]; omega⟩⟩
    · rw [b102_149 hr, h33, Option.bind_some, px_psh_some, b102_160 hr, if_pos h5, b102_169 hr, e137, b137_0 hr, h59, show px_w32 (((D.length + 1 : Nat) : Int) - 1) = (D.length : Int) by rw [ty_w (by omega)]; omega, hlen, q34i hr _ _ _ (px_s63 L) (Nat.le_of_ble_eq_true rfl) _ _ (by omega), ← hj, Option.bind_some, px_psh_none, b137_17 hr, Option.bind_some, px_psh_none, b102_176 hr, e58, h.2.2.1.2.1, show px_w32 ((t : Int) + 1) = ((t + 1 : Nat) : Int) by rw [ty_w (by omega)]; omega]
    · exact tz_cr_tr (by rw [hj]; exact tz_cr_k (by omega)) (tz_cr_8 (by omega))
    · rw [ty_up_row (by decide), ty_up_row (by decide), ty_up_row (by decide), hj, ty_up_row (by decide), ty_up_row (by decide), ty_up_row (by decide)]
      exact h.1
    · rw [ty_up_j (by decide), e58]
      exact h.2.2.1.1
    · rw [ty_up_j (by decide), e58]
      exact h.2.2.1.2.2
    · rw [ty_up_j (by decide), e58]
      exact h12
    · rw [ty_up_k (by decide), hj, ty_up_k (by decide)]
      exact hlen
    · rw [ty_up_k (by decide), hj, ty_up_k (by decide), h59, List.length_cons]
    · rw [ty_up_row (by decide), hj, ty_up_row (by decide)]
      exact h.2.2.2.2
    · rw [ty_up_k (by decide), hj, ty_up_k (by decide)]
      exact h61
    · rw [ty_up_k (by decide), hj, ty_up_k (by decide)]
      exact h62
    · rw [ty_up_k (by decide), hj, ty_up_eq]
    · refine tz_hQ_c (fun x x0 x1 => ?_) hq
      rw [ty_up_k (by decide), ty_up_k (by decide), ty_up_k (by decide), hj, ty_up_k (by decide), ty_up_k (by decide), ty_up_j (by omega)]
      exact ⟨rfl, rfl, rfl⟩
    · rw [ty_up_row (by decide), hj, ty_up_row (by decide)]
      exact hal
    · show (C1 ++ tz_gl D).length ≤ t + 1
      omega
  · obtain ⟨ia, ra, ea, qa⟩ := tz_101 (L := L) (r := r) (tt := tt) hr (d + 1) i l 1 (by omega) h ht.2 hm
    have e169 : ∃ i1 : MI, px_X (d + 1 + 1) 102 (169, [vR 58, vI x1, vI x2], []) (px_sh L, ia, l, r, tt) = some (none, (px_sh L, i1, l, r, tt)) ∧ tz_er 1 (PL t) i1 ∧ tz_cr ia i1 := by
      rw [b102_169 hr, e137, b137_0 hr, q34 hr _ _ _ (px_s63 L) (Nat.le_of_ble_eq_true rfl), Option.bind_some, px_psh_none, b137_17 hr, Option.bind_some, px_psh_none, b102_176 hr]
      obtain ⟨j, hj⟩ : ∃ j : MI, j = (if 0 ≤ px_w32 (ia 59 1 - 1) ∧ px_w32 (ia 59 1 - 1) < ((10 : Nat) : Int) then px_up ia 63 (px_w32 (ia 59 1 - 1)) (ia 59 0) else ia) := ⟨_, rfl⟩
      rw [← hj]
      have e58 : j 58 = ia 58 := by
        rw [hj]
        split
        · rw [ty_up_row (by decide)]
        · rfl
      have cj : tz_cr ia j := by
        rw [hj]
        split
        · exact tz_cr_k (by omega)
        · exact tz_cr_rf
      exact ⟨px_up j 58 9 (px_w32 (j 58 9 + 1)), rfl, tz_er_8 ⟨by rw [e58]; exact ea.1, by rw [e58]; exact ea.2.1, ea.2.2⟩ (by decide) (by decide), tz_cr_tr cj (tz_cr_8 (by omega))⟩
    obtain ⟨i1, r1, e1, c1⟩ := e169
    refine ⟨i1, ?_, tz_cr_tr (tz_cr_q qa) c1, Or.inr ⟨1, t, e1, ?_⟩⟩
    · rw [b102_149 hr, h33, Option.bind_some, px_psh_some, b102_160 hr, if_neg h5, ra, Option.bind_some, px_psh_none, r1]
    · have := tz_to_e hb2 hn2 (h5n h5)
      rw [hA2] at this
      exact tz_to_tr hA this
/-- readClause -/
theorem tz_102 (hr : px_hr r) (hK : tz_tk K U m) (dp : Nat) (i l : MI) (t : Nat) (D : List (Int × List Int)) (kd0 : Int) (h : tz_cn K U PL m t D i) (ht : t ≤ m) (hl : (tz_gl D).length ≤ t) (hdd : tz_dd D) (hD : D.length ≤ 10) (hk : ¬ K t = 0) :
    ∃ i1 : MI, px_C (dp + 22 + 1) 102 [vR 58] (px_sh L, i, l, r, tt) = some (none, (px_sh L, i1, l, r, tt)) ∧ tz_cr i i1 ∧ (tz_cg K U PL m (t, 0, [], [], 4, [], D, kd0) t D i1 ∨ tz_bad K U PL m (t, 0, [], [], 4, [], D, kd0) i1) := by
  have hm := hK.1
  have hk0 := hK.2.1 t ht
  have hk47 := hK.2.2.1 t ht
  have hbd : tz_bd m (t, 0, [], [], 4, [], D, kd0) := tz_bd4 ht hm hl hD
  have hn4 : ¬ ((t, (0 : Int), ([] : List (Int × Int)), ([] : List (Int × Nat)), (4 : Int), ([] : List Int), D, kd0).2.2.2.2.1 = 4 ∧ K (t, (0 : Int), ([] : List (Int × Int)), ([] : List (Int × Nat)), (4 : Int), ([] : List Int), D, kd0).1 = 0) := fun g => hk g.2
  have hstp : tz_stp K U (t, 0, [], [], 4, [], D, kd0) = tz_s4 K t 0 [] [] D := rfl
  have htok := (h.1.1 t ht).1
  have h33 : px_C (dp + 22) 33 [vR 65, vI (i 58 9)] (px_sh L, i, l, r, tt) = some (some (vI (K t)), (px_sh L, i, l, r, tt)) := by
    rw [h.2.1.2.1, q33i hr _ _ _ (px_s65 L) (Nat.le_of_ble_eq_true rfl) _ (by omega), htok]
  have wk : px_w32 (K t - 24) = K t - 24 := ty_w (by omega)
  -- a fault at once
  have bad : ∀ (f : Int), ¬ f = 0 → tz_stp K U (t, 0, [], [], 4, [], D, kd0) = .inl f → ∃ i1 : MI, px_C (dp + 22) 101 [vR 58, vI f] (px_sh L, i, l, r, tt) = some (none, (px_sh L, i1, l, r, tt)) ∧ tz_cr i i1 ∧ (tz_cg K U PL m (t, 0, [], [], 4, [], D, kd0) t D i1 ∨ tz_bad K U PL m (t, 0, [], [], 4, [], D, kd0) i1) := fun f hf hs => by
    obtain ⟨i1, r1, e1, c1⟩ := tz_101c (L := L) (r := r) (tt := tt) hr (dp + 22) i l f hf h ht hm
    exact ⟨i1, r1, c1, Or.inr ⟨f, t, e1, tz_to_e hbd hn4 hs⟩⟩
  rw [e102, b102_0 hr, h33, Option.bind_some, px_psh_some, b102_11 hr, wk]
  -- X@74
  have go : ∀ x2 : Int, 24 ≤ K t → K t ≤ 29 → (x2 = 0 ∧ 27 < K t ∨ x2 = 1 ∧ K t ≤ 27 ∧ tz_was (K t - 24) D = false) → ∃ i1 : MI, px_X (dp + 22 + 1) 102 (74, [vR 58, vI (K t - 24), vI x2], []) (px_sh L, i, l, r, tt) = some (none, (px_sh L, i1, l, r, tt)) ∧ tz_cr i i1 ∧ (tz_cg K U PL m (t, 0, [], [], 4, [], D, kd0) t D i1 ∨ tz_bad K U PL m (t, 0, [], [], 4, [], D, kd0) i1) := fun x2 hka hkb hx2 => by
    have htm : t < m := by omega
    have hs4 : tz_s4 K t 0 [] [] D = if D.length = 10 then .inl 6 else .inr (t + 1, 0, [(if K t ≤ 27 then 1 else 2, 0)], [], if K t ≤ 27 then 1 else 0, [], D, K t - 24) := by
      unfold tz_s4
      rw [if_neg (show ¬ ¬ (24 ≤ K t ∧ K t ≤ 29) from fun g => g ⟨hka, hkb⟩), if_neg (fun g => by
        rcases hx2 with ⟨-, g2⟩ | ⟨-, -, g2⟩
        · have := g.1
          omega
        · rw [g2] at g
          exact absurd g.2 Bool.false_ne_true)]
    rw [b102_74 hr _ _ _ _ _ (by intros; omega), h.2.2.2.1.2]
    by_cases h10 : D.length = 10
    · obtain ⟨i1, r1, c1⟩ := bad 6 (by omega) (by rw [hstp, hs4, if_pos h10])
      rw [if_neg (by omega), r1, Option.bind_some, px_psh_none, b102_92 hr]
      exact ⟨i1, rfl, c1⟩
    · rw [if_pos (by omega)]
      have hal := h.2.2.2.2.2.2 (K t - 24) (by omega) (by omega)
      rw [hal]
      obtain ⟨s, hs⟩ : ∃ s : Nat, i 58 12 = (s : Int) := ⟨(i 58 12).toNat, by have := h.2.2.1.1; omega⟩
      obtain ⟨w, hw⟩ : ∃ w : Nat, K t - 24 = (w : Int) := ⟨(K t - 24).toNat, by omega⟩
      have hsb := h.2.2.1
      rw [hs] at hsb
      have hp2 : 2 ^ w ≤ 2 ^ 5 := Nat.pow_le_pow_right (by omega) (by omega)
      have hor : px_or (i 58 12) (px_shl 1 (K t - 24)) = ((s ||| 2 ^ w : Nat) : Int) := by
        rw [hs, hw]
        exact ty_bit_or (by omega) (by omega)
      have horb : s ||| 2 ^ w < 2 ^ 6 := Nat.or_lt_two_pow (by omega) (by omega)
      rw [hor]
      obtain ⟨ia, hia⟩ : ∃ ia : MI, ia = px_up (px_up i 58 12 ((s ||| 2 ^ w : Nat) : Int)) 58 11 (tz_alw (K t - 24)) := ⟨_, rfl⟩
      rw [← hia]
      have qa : tz_cr i ia := by
        rw [hia]
        exact tz_cr_tr (tz_cr_8 (by omega)) (tz_cr_8 (by omega))
      have ra : ∀ k : Nat, k ≠ 58 → ia k = i k := fun k hk => by rw [hia, ty_up_row hk, ty_up_row hk]
      have e136 := tz_136 (L := L) (r := r) (tt := tt) hr (dp + 21) ia l (K t - 24) ((tz_gl D).length : Int) D.length (by rw [ra 59 (by decide)]; exact h.2.2.2.1.1) (by rw [ra 59 (by decide)]; exact h.2.2.2.1.2) (by omega)
      obtain ⟨ib, hib⟩ : ∃ ib : MI, ib = px_up (px_up (px_up (px_up ia 61 (D.length : Int) (K t - 24)) 62 (D.length : Int) ((tz_gl D).length : Int)) 63 (D.length : Int) ((tz_gl D).length : Int)) 59 1 ((D.length + 1 : Nat) : Int) := ⟨_, rfl⟩
      rw [← hib] at e136
      have qb : tz_cr ia ib := by
        rw [hib]
        exact tz_cr_tr (tz_cr_tr (tz_cr_tr (tz_cr_k (by omega)) (tz_cr_k (by omega))) (tz_cr_k (by omega))) (tz_cr_k (by omega))
      have rb : ∀ k : Nat, k ≠ 59 → k ≠ 61 → k ≠ 62 → k ≠ 63 → ib k = ia k := fun k k1 k2 k3 k4 => by rw [hib, ty_up_row k1, ty_up_row k4, ty_up_row k3, ty_up_row k2]
      obtain ⟨ic, hic⟩ : ∃ ic : MI, ic = px_up ib 58 9 ((t + 1 : Nat) : Int) := ⟨_, rfl⟩
      have qc : tz_cr ib ic := by
        rw [hic]
        exact tz_cr_8 (by omega)
      have rc : ∀ k : Nat, k ≠ 58 → ic k = ib k := fun k hk => by rw [hic, ty_up_row hk]
      have b58 : ib 58 = ia 58 := rb 58 (by decide) (by decide) (by decide) (by decide)
      have a58 : ∀ f : Int, f ≠ 11 → f ≠ 12 → ia 58 f = i 58 f := fun f f1 f2 => by rw [hia, ty_up_j f1, ty_up_j f2]
      have c58 : ∀ f : Int, f ≠ 9 → ic 58 f = ia 58 f := fun f hf => by rw [hic, ty_up_j hf, b58]
      have hmb : ∀ v : Int, 0 ≤ v → v < 15 → ty_bit (tz_alw (K t - 24)) v = tz_mb (K t - 24) v := fun v v0 v1 => tz_alw_mb (by omega) ⟨v0, v1⟩
      have har := tz_alw_r (k := K t - 24) (by omega)
      have c11 : ic 58 11 = tz_alw (K t - 24) := by rw [c58 11 (by decide), hia, ty_up_eq]
      have c12 : ic 58 12 = ((s ||| 2 ^ w : Nat) : Int) := by rw [c58 12 (by decide), hia, ty_up_j (by decide), ty_up_eq]
      have cc : tz_cm K U PL m (K t - 24) (t + 1) 0 (tz_gl D) ic := by
        refine ⟨?_, ⟨by rw [c11]; exact har.1, by rw [c11]; exact har.2, by rw [c11]; exact hmb⟩, ⟨?_, by rw [hic, ty_up_eq], ?_⟩, ?_, ?_⟩
        · rw [rc 65 (by decide), rc 66 (by decide), rc 67 (by decide), rb 65 (by decide) (by decide) (by decide) (by decide), rb 66 (by decide) (by decide) (by decide) (by decide), rb 67 (by decide) (by decide) (by decide) (by decide), ra 65 (by decide), ra 66 (by decide), ra 67 (by decide)]
          exact h.1
        · rw [c58 3 (by decide), a58 3 (by decide) (by decide)]
          exact h.2.1.1
        · rw [c58 10 (by decide), a58 10 (by decide) (by decide)]
          exact h.2.1.2.2
        · rw [rc 59 (by decide), hib, ty_up_j (by decide), ty_up_k (by decide), ty_up_k (by decide), ty_up_k (by decide), ra 59 (by decide)]
          exact h.2.2.2.1.1
        · rw [rc 60 (by decide), rb 60 (by decide) (by decide) (by decide) (by decide), ra 60 (by decide)]
          exact h.2.2.2.2.1
      have hwasb : ∀ (C1 : List Int) (v : Int), 0 ≤ v → v < 6 → ty_bit ((s ||| 2 ^ w : Nat) : Int) v = tz_was v ((K t - 24, C1) :: D) := fun C1 v v0 v1 => by
        have hsv := hsb.2.2 v v0 v1
        unfold ty_bit at hsv ⊢
        rw [Int.toNat_natCast] at hsv ⊢
        rw [Nat.testBit_or, hsv, Nat.testBit_two_pow]
        show _ = (decide (K t - 24 = v) || tz_was v D)
        rw [Bool.or_comm]
        congr 1
        exact decide_eq_decide.mpr (by omega)
      have hq : tz_hQ (ic 61) (ic 62) (ic 63) D := by
        refine tz_hQ_c (fun x x0 x1 => ?_) h.2.2.2.2.2.1
        rw [rc 61 (by decide), rc 62 (by decide), rc 63 (by decide), hib, ty_up_k (by decide), ty_up_k (by decide), ty_up_k (by decide), ty_up_j (by omega), ty_up_k (by decide), ty_up_k (by decide), ty_up_j (by omega), ty_up_k (by decide), ty_up_k (by decide), ty_up_j (by omega), ty_up_k (by decide), ty_up_k (by decide), ra 61 (by decide), ra 62 (by decide), ra 63 (by decide)]
        exact ⟨rfl, rfl, rfl⟩
      have h61 : ic 61 (D.length : Int) = K t - 24 := by rw [rc 61 (by decide), hib, ty_up_k (by decide), ty_up_k (by decide), ty_up_k (by decide), ty_up_eq]
      have h62 : ic 62 (D.length : Int) = ((tz_gl D).length : Int) := by rw [rc 62 (by decide), hib, ty_up_k (by decide), ty_up_k (by decide), ty_up_eq]
      have h59 : ic 59 1 = ((D.length + 1 : Nat) : Int) := by rw [rc 59 (by decide), hib, ty_up_eq]
      have hal' : ∀ x : Int, 0 ≤ x → x < 6 → ic 1 x = tz_alw x := fun x x0 x1 => by
        rw [rc 1 (by decide), rb 1 (by decide) (by decide) (by decide) (by decide), ra 1 (by decide)]
        exact h.2.2.2.2.2.2 x x0 x1
      have qac := tz_cr_tr qa (tz_cr_tr qb qc)
      have hdef : px_w32 (ib 58 9 + 1) = ((t + 1 : Nat) : Int) := by
        rw [b58, a58 9 (by decide) (by decide), h.2.1.2.1, ty_w (by omega)]
        omega
      have hD9 : D.length < 10 := by omega
      rw [e136, Option.bind_some, px_psh_none, b102_124 hr, hdef, ← hic]
      rcases hx2 with ⟨rfl, hk27⟩ | ⟨rfl, hk27, hwas⟩
      · -- asks
        rw [if_pos rfl]
        have hto : tz_to K U m (t, 0, [], [], 4, [], D, kd0) (.inr (t + 1, 0, [(2, 0)], [], 0, [], D, K t - 24)) := tz_to_s hbd hn4 (by
          rw [hstp, hs4, if_neg h10, if_neg (by omega), if_neg (by omega)]) tz_to_rf
        obtain ⟨id, rd, qd, od⟩ := tz_eit (L := L) (r := r) (tt := tt) hr hK hD9 dp ic l (t + 1) cc (by omega) (by omega)
        rw [rd, Option.bind_some, px_psh_none]
        rcases od with ⟨t', W2, C2, C1, ⟨a1, a2⟩, a3, a4, ⟨a5, a6, a7⟩, a8, a9, a10, a11⟩ | ⟨f, t', e1, to1⟩
        · have hl9 := a9
          rw [List.length_append] at hl9
          have hA2b : tz_bd m (t', 0, [(2, 0)], W2, 3, C2, D, K t - 24) := tz_bd_mk 3 (by omega) a2 (by omega) (show ((1 : Nat) : Int) ≤ 0 + 2 by omega) (show W2.length ≤ 2 * 1 + 2 by omega) (by rw [List.length_append]; omega) hD9 (Or.inl (Or.inr rfl))
          obtain ⟨i1, r1, c1, o1⟩ := tz_cl_t (L := L) (r := r) (tt := tt) hr hK (dp + 21) id l t t' D (K t - 24) (K t - 24) 0 C1 (t, 0, [], [], 4, [], D, kd0) (t', 0, [(2, 0)], W2, 3, C2, D, K t - 24) (tz_to_tr hto a4) rfl hA2b (fun g => absurd g.1 (show ¬ (3 : Int) = 4 by omega)) (fun h5 => by
            show tz_s3 K t' 0 [(2, 0)] W2 C2 D (K t - 24) = _
            unfold tz_s3 tz_co
            rw [if_neg a8, if_pos ⟨rfl, h5⟩, show [((2 : Int), (0 : Int))].length = 1 from rfl, a5]) (fun h5 => by
            show tz_s3 K t' 0 [(2, 0)] W2 C2 D (K t - 24) = _
            unfold tz_s3
            rw [if_neg a8, if_neg (fun g => h5 g.2)]) a3 ⟨by omega, a2⟩ a9 (by omega) (by rw [a10, decide_eq_true (by omega)]) a11 hD9 hdd (fun g => by omega) (by rw [qd.1 61 (by decide) (by decide) (by decide), qd.1 62 (by decide) (by decide) (by decide), qd.1 63 (by decide) (by decide) (by decide)]; exact hq) (by rw [qd.1 61 (by decide) (by decide) (by decide)]; exact h61) (by rw [qd.1 62 (by decide) (by decide) (by decide)]; exact h62) (by rw [qd.2.2.1 1 (by decide)]; exact h59) (by
            rw [qd.2.1 12 (by decide) (by decide) (by decide) (by decide), c12]
            exact ⟨by omega, by omega, hwasb C1⟩) (by rw [qd.1 1 (by decide) (by decide) (by decide)]; exact hal')
          exact ⟨i1, r1, tz_cr_tr qac (tz_cr_tr (tz_cr_q qd) c1), o1⟩
        · obtain ⟨i1, r1, e2, c1⟩ := tz_cl_te (L := L) (r := r) (tt := tt) hr (dp + 21) id l (K t - 24) 0 f (PL t') e1
          exact ⟨i1, r1, tz_cr_tr qac (tz_cr_tr (tz_cr_q qd) c1), Or.inr ⟨f, t', e2, tz_to_tr hto to1⟩⟩
      · -- a sum
        rw [if_neg (by omega)]
        have hto : tz_to K U m (t, 0, [], [], 4, [], D, kd0) (.inr (t + 1, 0, [(1, 0)], [], 1, [], D, K t - 24)) := tz_to_s hbd hn4 (by
          rw [hstp, hs4, if_neg h10, if_pos hk27, if_pos hk27]) tz_to_rf
        obtain ⟨id, rd, qd, od⟩ := tz_105 (L := L) (r := r) (tt := tt) (PL := PL) (kd := K t - 24) hr hK hD9 (dp + 2) 8 ic l (t + 1) 0 [(1, 0)] [] [] [] 0 (by omega) cc (by omega) (show (tz_gl D).length + 0 ≤ t + 1 by omega) ⟨Or.inl (Or.inl rfl), ⟨show ((1 : Nat) : Int) ≤ 0 + 2 by omega, by omega, by omega, show 0 + 2 ≤ 2 * 1 by omega⟩, fun x hx => by cases hx⟩ (fun y hy => by
          have e0 : y = (1, 0) := (Option.some.inj hy).symm
          rw [e0]
          show ¬ (1 : Int) = 7
          omega) rfl (show ((0 : Nat) : Int) ≤ 3 + 2 * 0 by omega) (fun c hc => by cases hc)
        have rd' : px_C (dp + 22) 105 [vR 58] (px_sh L, ic, l, r, tt) = some (none, (px_sh L, id, l, r, tt)) := rd
        rw [rd', Option.bind_some, px_psh_none, b102_142 hr]
        rcases od with ⟨t', W2, C2, C1, ⟨a1, a2⟩, a3, a4, ⟨a5, a6, a7⟩, a8, a9, a10, a11⟩ | ⟨f, t', e1, to1⟩
        · have hl9 := a9
          rw [List.length_append] at hl9
          have hW2 : W2.length ≤ 0 + 2 := a6
          have hw1 : tz_wk 1 1 W2 C2 = ([], C1) := a5 1 (by omega)
          have hA2b : tz_bd m (t', 0, [(1, 0)], W2, 2, C2, D, K t - 24) := tz_bd_mk 2 (by omega) a2 (by omega) (show ((1 : Nat) : Int) ≤ 0 + 2 by omega) (show W2.length ≤ 2 * 1 + 2 by omega) (by rw [List.length_append]; omega) hD9 (Or.inl (Or.inl rfl))
          have ehd : [((1 : Int), (0 : Int))].headD (0, 0) = (1, 0) := rfl
          obtain ⟨i1, r1, c1, o1⟩ := tz_cl_t (L := L) (r := r) (tt := tt) hr hK (dp + 21) id l t t' D (K t - 24) (K t - 24) 1 C1 (t, 0, [], [], 4, [], D, kd0) (t', 0, [(1, 0)], W2, 2, C2, D, K t - 24) (tz_to_tr hto a4) rfl hA2b (fun g => absurd g.1 (show ¬ (2 : Int) = 4 by omega)) (fun h5 => by
            show tz_s2 K t' 0 [(1, 0)] W2 C2 D (K t - 24) = _
            unfold tz_s2 tz_co
            rw [ehd, if_neg a8, if_neg (fun g => absurd g.1 (show ¬ (1 : Int) = 6 by omega)), if_neg (fun g => absurd g.1 (show ¬ (1 : Int) = 4 by omega)), if_neg (show ¬ (1 : Int) = 5 by omega), if_pos ⟨rfl, h5⟩, show [((1 : Int), (0 : Int))].length = 1 from rfl, hw1]) (fun h5 => by
            show tz_s2 K t' 0 [(1, 0)] W2 C2 D (K t - 24) = _
            unfold tz_s2
            rw [ehd, if_neg a8, if_neg (fun g => absurd g.1 (show ¬ (1 : Int) = 6 by omega)), if_neg (fun g => absurd g.1 (show ¬ (1 : Int) = 4 by omega)), if_neg (show ¬ (1 : Int) = 5 by omega), if_neg (fun g => h5 g.2)]) a3 ⟨by omega, a2⟩ (by omega) (by omega) (by rw [a10, decide_eq_false (by omega)]) a11 hD9 hdd (fun _ => hwas) (by rw [qd.1 61 (by decide) (by decide) (by decide), qd.1 62 (by decide) (by decide) (by decide), qd.1 63 (by decide) (by decide) (by decide)]; exact hq) (by rw [qd.1 61 (by decide) (by decide) (by decide)]; exact h61) (by rw [qd.1 62 (by decide) (by decide) (by decide)]; exact h62) (by rw [qd.2.2.1 1 (by decide)]; exact h59) (by
            rw [qd.2.1 12 (by decide) (by decide) (by decide) (by decide), c12]
            exact ⟨by omega, by omega, hwasb C1⟩) (by rw [qd.1 1 (by decide) (by decide) (by decide)]; exact hal')
          exact ⟨i1, r1, tz_cr_tr qac (tz_cr_tr (tz_cr_q qd) c1), o1⟩
        · obtain ⟨i1, r1, e2, c1⟩ := tz_cl_te (L := L) (r := r) (tt := tt) hr (dp + 21) id l (K t - 24) 1 f (PL t') e1
          exact ⟨i1, r1, tz_cr_tr qac (tz_cr_tr (tz_cr_q qd) c1), Or.inr ⟨f, t', e2, tz_to_tr hto to1⟩⟩
  have err43 : ∀ x2 : Int, ¬ (24 ≤ K t ∧ K t ≤ 29) → ∃ i1 : MI, px_X (dp + 22 + 1) 102 (43, [vR 58, vI (K t - 24), vI x2], []) (px_sh L, i, l, r, tt) = some (none, (px_sh L, i1, l, r, tt)) ∧ tz_cr i i1 ∧ (tz_cg K U PL m (t, 0, [], [], 4, [], D, kd0) t D i1 ∨ tz_bad K U PL m (t, 0, [], [], 4, [], D, kd0) i1) := fun x2 hn => by
    obtain ⟨i1, r1, c1⟩ := bad 1 (by omega) (by
      rw [hstp]
      unfold tz_s4
      rw [if_pos hn])
    rw [b102_43 hr, r1, Option.bind_some, px_psh_none, b102_48 hr]
    exact ⟨i1, rfl, c1⟩
  by_cases k4 : 4 ≤ K t - 24
  · rw [if_pos k4, b102_25 hr, if_neg (by omega)]
    by_cases k5 : 5 < K t - 24
    · rw [if_pos k5]
      exact err43 0 (by omega)
    · rw [if_neg k5, if_pos (by omega), if_pos rfl]
      exact go 0 (by omega) (by omega) (Or.inl ⟨rfl, by omega⟩)
  · rw [if_neg k4, b102_25 hr]
    by_cases k0 : K t - 24 < 0
    · rw [if_pos k0]
      exact err43 1 (by omega)
    · have hbit := h.2.2.1.2.2 (K t - 24) (by omega) (by omega)
      rw [if_neg k0, if_neg (by omega), if_pos (by omega), if_neg (by omega), q32 hr _ _ _ _ _ h.2.2.1.1 (by have := h.2.2.1.2.1; omega), Option.bind_some, px_psh_some, b102_63 hr, hbit]
      by_cases hw : tz_was (K t - 24) D = true
      · obtain ⟨i1, r1, c1⟩ := bad 4 (by omega) (by
          rw [hstp]
          unfold tz_s4
          rw [if_neg (show ¬ ¬ (24 ≤ K t ∧ K t ≤ 29) from fun g => g (by omega)), if_pos ⟨by omega, hw⟩])
        rw [px_bi_T ⟨by omega, by omega, hw⟩, if_neg (by omega), r1, Option.bind_some, px_psh_none, b102_71 hr]
        exact ⟨i1, rfl, c1⟩
      · rw [px_bi_F (fun g => hw g.2.2), if_pos rfl]
        exact go 1 (by omega) (by omega) (Or.inr ⟨rfl, by omega, Bool.eq_false_iff.mpr hw⟩)
/-- all read -/
def tz_rg (K U PL : Nat → Int) (m : Nat) (A : tz_RS) (i1 : MI) : Prop := ∃ (D' : List (Int × List Int)) (kd : Int), tz_cn K U PL m m D' i1 ∧ tz_to K U m A (.inr (m, 0, [], [], 4, [], D', kd)) ∧ (tz_gl D').length ≤ m ∧ tz_dd D' ∧ D'.length ≤ 10
theorem tz_92_n (hr : px_hr r) (hK : tz_tk K U m) (dp : Nat) (l : MI) : ∀ (k : Nat) (i : MI) (t : Nat) (x1 kd0 : Int) (D : List (Int × List Int)), m + 1 ≤ t + k → 0 ≤ x1 ∧ x1 ≤ (t : Int) → tz_cn K U PL m t D i → t ≤ m → (tz_gl D).length ≤ t → tz_dd D → D.length ≤ 10 →
    ∃ i1 : MI, px_X (dp + 23 + 1) 92 (43, [vR 58, vI x1], []) (px_sh L, i, l, r, tt) = some (none, (px_sh L, px_up i1 58 1 0, l, r, tt)) ∧ tz_cr i i1 ∧ (tz_rg K U PL m (t, 0, [], [], 4, [], D, kd0) i1 ∨ tz_bad K U PL m (t, 0, [], [], 4, [], D, kd0) i1)
  | 0, i, t, x1, kd0, D, hk, hx, h, ht, hl, hdd, hD => by omega
  | k + 1, i, t, x1, kd0, D, hk, hx, h, ht, hl, hdd, hD => by
    have hm := hK.1
    have hk0 := hK.2.1 t ht
    have htok := (h.1.1 t ht).1
    have h33 : px_C (dp + 23) 33 [vR 65, vI (i 58 9)] (px_sh L, i, l, r, tt) = some (some (vI (K t)), (px_sh L, i, l, r, tt)) := by
      rw [h.2.1.2.1, q33i hr _ _ _ (px_s65 L) (Nat.le_of_ble_eq_true rfl) _ (by omega), htok]
    rw [b92_43 hr, if_neg (by omega), if_pos h.2.1.1, h33, Option.bind_some, px_psh_some, b92_68 hr]
    by_cases hz : K t = 0
    · rw [if_pos hz]
      have e : t = m := hk0.mp hz
      rw [e] at h hl ⊢
      exact ⟨i, rfl, tz_cr_rf, Or.inl ⟨D, kd0, h, tz_to_rf, hl, hdd, hD⟩⟩
    · rw [if_neg hz]
      obtain ⟨ia, ra, qa, oa⟩ := tz_102 (L := L) (r := r) (tt := tt) hr hK dp i l t D kd0 h ht hl hdd hD hz
      rw [ra, Option.bind_some, px_psh_none, b92_75 hr]
      rw [show px_w32 (x1 + 1) = x1 + 1 from ty_w (by omega)]
      rcases oa with ⟨t', D', kd', ⟨a1, a2⟩, a3, a4, a5, a6, a7⟩ | ⟨f, t', e1, to1⟩
      · obtain ⟨i1, r1, q1, o1⟩ := tz_92_n hr hK dp l k ia t' (x1 + 1) kd' D' (by omega) (by omega) a3 a2 a5 a6 a7
        refine ⟨i1, r1, tz_cr_tr qa q1, ?_⟩
        rcases o1 with ⟨D2, k2, g1, g2, g3⟩ | g
        · exact Or.inl ⟨D2, k2, g1, tz_to_tr a4 g2, g3⟩
        · exact Or.inr (tz_bad_s a4 g)
      · refine ⟨ia, ?_, qa, Or.inr ⟨f, t', e1, to1⟩⟩
        rw [b92_43 hr]
        by_cases h3 : 300 < x1 + 1
        · rw [if_pos h3]
        · rw [if_neg h3, if_neg (fun g => e1.2.2 (e1.1.symm.trans g))]
end TYCL
