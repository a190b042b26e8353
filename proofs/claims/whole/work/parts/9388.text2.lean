/-! text: what is kept. -/
/-! Rows out of what they hold. -/
theorem tz_hX_at {f : Int → Int} {Y : List Int} : ∀ {C : List Int}, tz_hX f (C ++ Y) → (∀ j (h : j < C.length), f ((Y.length + j : Nat) : Int) = C.reverse[j]'(by rw [List.length_reverse]; exact h)) ∧ tz_hX f Y
  | [], h => ⟨fun j hj => absurd hj (by simp), h⟩
  | c :: C, h => by
    obtain ⟨h1, h2⟩ := h
    obtain ⟨g1, g2⟩ := tz_hX_at h2
    refine ⟨fun j hj => ?_, g2⟩
    have hj' : j < C.length + 1 := hj
    by_cases e : j = C.length
    · have hcl : (C ++ Y).length = Y.length + C.length := by rw [List.length_append]; omega
      have h1' : f ((Y.length + C.length : Nat) : Int) = c := by
        rw [← hcl]
        exact h1
      subst e
      rw [h1']
      simp
    · have hlt : j < C.length := by omega
      rw [g1 j hlt]
      simp only [List.reverse_cons]
      rw [List.getElem_append_left (by rw [List.length_reverse]; exact hlt)]
theorem tz_hC_at {f g : Int → Int} {Y : List Int} : ∀ {C : List Int}, tz_hC f g (C ++ Y) → (∀ j (h : j < C.length), tz_te (C.reverse[j]'(by rw [List.length_reverse]; exact h)) (f ((Y.length + j : Nat) : Int)) (g ((Y.length + j : Nat) : Int))) ∧ tz_hC f g Y
  | [], h => ⟨fun j hj => absurd hj (by simp), h⟩
  | c :: C, h => by
    obtain ⟨h1, h2⟩ := h
    obtain ⟨g1, g2⟩ := tz_hC_at h2
    refine ⟨fun j hj => ?_, g2⟩
    have hj' : j < C.length + 1 := hj
    by_cases e : j = C.length
    · have hcl : (C ++ Y).length = Y.length + C.length := by rw [List.length_append]; omega
      have h1' : tz_te c (f ((Y.length + C.length : Nat) : Int)) (g ((Y.length + C.length : Nat) : Int)) := by
        rw [← hcl]
        exact h1
      subst e
      have er : (c :: C).reverse[C.length]'(by simp) = c := by simp
      rw [er]
      exact h1'
    · have hlt : j < C.length := by omega
      have hg := g1 j hlt
      have er : (c :: C).reverse[j]'(by simp; omega) = C.reverse[j]'(by rw [List.length_reverse]; exact hlt) := by
        simp only [List.reverse_cons]
        rw [List.getElem_append_left (by rw [List.length_reverse]; exact hlt)]
      rw [er]
      exact hg
theorem tz_chk_app (cs : List Int) (c : Int) : ∀ st : List Bool, ty_chk (cs ++ [c]) st = (ty_chk cs st).bind (ty_step c) := by
  induction cs with
  | nil =>
    intro st
    show (match ty_step c st with | some st' => ty_chk [] st' | none => none) = ty_step c st
    cases ty_step c st <;> rfl
  | cons x cs ih =>
    intro st
    show (match ty_step x st with | some st' => ty_chk (cs ++ [c]) st' | none => none) = (match ty_step x st with | some st' => ty_chk cs st' | none => none).bind (ty_step c)
    cases ty_step x st with
    | none => rfl
    | some st' => exact ih st'
theorem tz_ck_chk : ∀ C : List Int, tz_ck C = ty_chk C.reverse []
  | [] => rfl
  | c :: C => by
    rw [List.reverse_cons, tz_chk_app, ← tz_ck_chk C]
    rfl
/-- what holds of the k-th clause -/
def tz_kth (cf ck cs ce nw na no nv : Int → Int) (k : Nat) : Prop := ∃ (a : Int) (C : List Int) (s e : Nat), (0 ≤ a ∧ a ≤ 5 ∧ ck (k : Int) = a ∧ nw (k : Int) = a) ∧ (cs (k : Int) = (s : Int) ∧ ce (k : Int) = ((s + C.length : Nat) : Int) ∧ na (k : Int) = (e : Int) ∧ e = s + k) ∧
  (∀ j (h : j < C.length), cf ((s + j : Nat) : Int) = C.reverse[j]'(by rw [List.length_reverse]; exact h) ∧ tz_te (C.reverse[j]'(by rw [List.length_reverse]; exact h)) (no ((e + j : Nat) : Int)) (nv ((e + j : Nat) : Int))) ∧ no ((e + C.length : Nat) : Int) = 408 ∧ ty_chk C.reverse [] = some [decide (4 ≤ a)] ∧ tz_mc a C
theorem tz_was_ex {k : Int} {f : Int → Int} {g h : Int → Int} : ∀ {D : List (Int × List Int)}, tz_hQ f g h D → (tz_was k D = true ↔ ∃ x : Nat, x < D.length ∧ f (x : Int) = k)
  | [], _ => ⟨fun h => absurd h Bool.false_ne_true, fun ⟨x, x1, _⟩ => absurd x1 (by rw [List.length_nil]; omega)⟩
  | (a, c) :: D, hq => by
    have ih := tz_was_ex (k := k) hq.2
    unfold tz_was
    rw [Bool.or_eq_true, decide_eq_true_eq, ih, List.length_cons]
    constructor
    · rintro (h1 | ⟨x, x1, x2⟩)
      · exact ⟨D.length, by omega, by rw [hq.1.1]; exact h1⟩
      · exact ⟨x, by omega, x2⟩
    · rintro ⟨x, x1, x2⟩
      by_cases hx : x = D.length
      · rw [hx, hq.1.1] at x2
        exact Or.inl x2
      · exact Or.inr ⟨x, by omega, x2⟩
theorem tz_fin {cf ck cs ce nw na no nv : Int → Int} : ∀ {D : List (Int × List Int)}, tz_hX cf (tz_gl D) → tz_hQ ck cs ce D → tz_hD nw na D → tz_hC no nv (tz_fl D) → tz_dd D → (∀ k : Nat, k < D.length → tz_kth cf ck cs ce nw na no nv k) ∧ ∀ k k' : Nat, k < D.length → k' < D.length → ck (k : Int) = ck (k' : Int) → ck (k : Int) < 4 → k = k'
  | [], _, _, _, _, _ => ⟨fun k hk => absurd hk (by simp), fun k k' hk => absurd hk (by simp)⟩
  | (a, C) :: D, hX, hQ, hD, hC, hdd => by
    obtain ⟨x1, x2⟩ := tz_hX_at (C := C) hX
    obtain ⟨⟨q1, q2, q3⟩, q4⟩ := hQ
    obtain ⟨⟨d1, d2⟩, d3⟩ := hD
    obtain ⟨c1, c2⟩ := hC
    obtain ⟨c3, c4⟩ := tz_hC_at (C := C) c2
    obtain ⟨⟨a1, a2, a3, a4⟩, a5⟩ := hdd
    obtain ⟨ih1, ih2⟩ := tz_fin x2 q4 d3 c4 a5
    have hfl := tz_fl_len D
    have h408 : no (((tz_fl D).length + C.length : Nat) : Int) = 408 := by
      have hcl : (C ++ tz_fl D).length = (tz_fl D).length + C.length := by rw [List.length_append]; omega
      rw [← hcl]
      rcases c1 with ⟨-, g⟩ | ⟨g, -⟩
      · exact g
      · exact absurd g (by decide)
    have hce : ce (D.length : Int) = (((tz_gl D).length + C.length : Nat) : Int) := by
      rw [q3, List.length_append]
      congr 1
      omega
    refine ⟨fun k hk => ?_, fun k k' hk hk' he h4 => ?_⟩
    · rw [List.length_cons] at hk
      by_cases e : k = D.length
      · rw [e]
        exact ⟨a, C, (tz_gl D).length, (tz_fl D).length, ⟨a1.1, a1.2, q1, d1⟩, ⟨q2, hce, d2, hfl⟩, fun j hj => ⟨x1 j hj, c3 j hj⟩, h408, by rw [← tz_ck_chk]; exact a2, a3⟩
      · exact ih1 k (by omega)
    · rw [List.length_cons] at hk hk'
      by_cases e : k = D.length
      · by_cases e' : k' = D.length
        · rw [e, e']
        · rw [e, q1] at he h4
          have hw := a4 h4
          have := (tz_was_ex (k := a) q4).mpr ⟨k', by omega, he.symm⟩
          rw [hw] at this
          exact absurd this (by decide)
      · by_cases e' : k' = D.length
        · rw [e', q1] at he
          rw [he] at h4
          have hw := a4 h4
          have := (tz_was_ex (k := a) q4).mpr ⟨k, by omega, he⟩
          rw [hw] at this
          exact absurd this (by decide)
        · exact ih2 k k' (by omega) (by omega) he h4
section TYW2
variable {L tt : Nat} {r : MR}
/-- copyFrom -/
theorem tz_139 (hr : px_hr r) (d : Nat) (i l : MI) {k0 : Nat} (ht : px_tx k0) (h59 : ¬ k0 = 59) : ∃ i1 : MI, px_C (d + 1) 139 [vR k0, vR 59] (px_sh L, i, l, r, tt) = some (none, (px_sh L, i1, l, r, tt)) ∧ ty_ch [k0, k0 + 1, k0 + 2, k0 + 3, k0 + 4] i i1 ∧ i1 k0 0 = i 59 0 ∧ i1 k0 1 = i 59 1 ∧ (∀ x : Int, 0 ≤ x → x < 300 → i1 (k0 + 1) x = i 60 x) ∧ ∀ x : Int, 0 ≤ x → x < 10 → i1 (k0 + 2) x = i 61 x ∧ i1 (k0 + 3) x = i 62 x ∧ i1 (k0 + 4) x = i 63 x := by
  have hk : k0 = 73 ∨ k0 = 78 ∨ k0 = 83 ∨ k0 = 88 ∨ k0 = 93 ∨ k0 = 98 := by
    unfold px_tx at ht
    omega
  have hn : px_nl (vR k0) := px_nl_R _
  obtain ⟨j, hj⟩ : ∃ j : MI, j = px_up (px_up i k0 0 (i 59 0)) k0 1 (i 59 1) := ⟨_, rfl⟩
  have e59 : (px_up i k0 0 (i 59 0)) 59 1 = i 59 1 := ty_up_k (fun e => h59 e.symm)
  have cj : ty_ch [k0] i j := by
    rw [hj]
    exact ty_ch_tr (ty_ch_up (S := [k0]) (by simp)) (ty_ch_up (S := [k0]) (by simp)) (by simp) (by simp)
  obtain ⟨i1, r1, c1, g1⟩ := q35x (L := L) (r := r) (t := tt) hr d j l (px_s60 L) (Nat.le_of_ble_eq_true rfl) (px_tx_s1 ht) (px_tx_g ht 1)
  obtain ⟨i2, r2, c2, g2⟩ := q35x (L := L) (r := r) (t := tt) hr d i1 l (px_s61 L) (Nat.le_of_ble_eq_true rfl) (px_tx_s2 ht) (px_tx_g ht 2)
  obtain ⟨i3, r3, c3, g3⟩ := q35x (L := L) (r := r) (t := tt) hr d i2 l (px_s62 L) (Nat.le_of_ble_eq_true rfl) (px_tx_s3 ht) (px_tx_g ht 3)
  obtain ⟨i4, r4, c4, g4⟩ := q35x (L := L) (r := r) (t := tt) hr d i3 l (px_s63 L) (Nat.le_of_ble_eq_true rfl) (px_tx_s4 ht) (px_tx_g ht 4)
  have n1 : ∀ (k : Nat) (S : List Nat), S = [k0 + 1] ∨ S = [k0 + 2] ∨ S = [k0 + 3] ∨ S = [k0 + 4] ∨ S = [k0] → k ≤ 63 → ¬ k ∈ S := fun k S hS hkk hm => by
    rcases hS with rfl | rfl | rfl | rfl | rfl <;> simp only [List.mem_singleton] at hm <;> omega
  refine ⟨i4, ?_, fun k hkn => ?_, ?_, ?_, fun x x0 x1 => ?_, fun x x0 x1 => ⟨?_, ?_, ?_⟩⟩
  · rw [e139, b139_0 hr _ _ _ ht, e59, ← hj, r1, Option.bind_some, px_psh_none, b139_27 hr _ _ _ ht, r2, Option.bind_some, px_psh_none, b139_38 hr _ _ _ ht, r3, Option.bind_some, px_psh_none, b139_49 hr _ _ _ ht, r4, Option.bind_some, px_psh_none, b139_60 hr _ _ _ hn]
  · simp only [List.mem_cons, List.not_mem_nil, or_false, not_or] at hkn
    rw [c4 k (by simp only [List.mem_singleton]; exact hkn.2.2.2.2), c3 k (by simp only [List.mem_singleton]; exact hkn.2.2.2.1), c2 k (by simp only [List.mem_singleton]; exact hkn.2.2.1), c1 k (by simp only [List.mem_singleton]; exact hkn.2.1), cj k (by simp only [List.mem_singleton]; exact hkn.1)]
  · rw [c4 k0 (by simp), c3 k0 (by simp), c2 k0 (by simp), c1 k0 (by simp), hj, ty_up_j (by decide), ty_up_eq]
  · rw [c4 k0 (by simp), c3 k0 (by simp), c2 k0 (by simp), c1 k0 (by simp), hj, ty_up_eq]
  · rw [c4 (k0 + 1) (by simp), c3 (k0 + 1) (by simp), c2 (k0 + 1) (by simp), g1 x x0 (by omega), cj 60 (n1 60 _ (by simp) (by omega))]
  · rw [c4 (k0 + 2) (by simp), c3 (k0 + 2) (by simp), g2 x x0 (by omega), c1 61 (n1 61 _ (by simp) (by omega)), cj 61 (n1 61 _ (by simp) (by omega))]
  · rw [c4 (k0 + 3) (by simp), g3 x x0 (by omega), c2 62 (n1 62 _ (by simp) (by omega)), c1 62 (n1 62 _ (by simp) (by omega)), cj 62 (n1 62 _ (by simp) (by omega))]
  · rw [g4 x x0 (by omega), c3 63 (n1 63 _ (by simp) (by omega)), c2 63 (n1 63 _ (by simp) (by omega)), c1 63 (n1 63 _ (by simp) (by omega)), cj 63 (n1 63 _ (by simp) (by omega))]
/-- keepsText -/
theorem tz_181_a (hr : px_hr r) (d : Nat) (l : MI) (q c : Nat) (hq : q < 6) (hc : c ≤ 10) (na : Int → Int) (hna : ∀ x : Int, 0 ≤ x → x < (c : Int) → 0 ≤ na x ∧ na x ≤ 400) : ∀ (n : Nat) (i : MI) (k : Int), 0 ≤ k → k + n = c → i 123 29 = (c : Int) → (∀ x : Int, 0 ≤ x → x < (c : Int) → i 137 x = na x) →
    ∃ i1 : MI, px_X d 181 (12, [vR 123, vI (q : Int), vI k], []) (px_sh L, i, l, r, tt) = px_X d 181 (68, [vR 123, vI (q : Int), vI 0], []) (px_sh L, i1, l, r, tt) ∧ ty_ch [128, 129] i i1 ∧ (∀ x : Int, k ≤ x → x < (c : Int) → i1 128 (10 * q + x) = i 136 x ∧ i1 129 (10 * q + x) = 400 * q + na x) ∧ ∀ x : Int, ¬ (10 * q + k ≤ x ∧ x < 10 * q + c) → i1 128 x = i 128 x ∧ i1 129 x = i 129 x
  | 0, i, k, h0, hn, h29, h137 => by
    have hb := b181_12 (L := L) (t := tt) hr d i l (q : Int) k
    rw [h29] at hb
    refine ⟨i, ?_, ty_ch_rf, fun x x0 x1 => by omega, fun x _ => ⟨rfl, rfl⟩⟩
    rw [hb (by intros; omega) (by intros; omega), if_pos (by omega)]
  | n + 1, i, k, h0, hn, h29, h137 => by
    have hnk := hna k h0 (by omega)
    have hb := b181_12 (L := L) (t := tt) hr d i l (q : Int) k
    rw [h29, h137 k h0 (by omega), show px_w32 (10 * (q : Int)) = 10 * (q : Int) from ty_w (by omega), show px_w32 (10 * (q : Int) + k) = 10 * (q : Int) + k from ty_w (by omega), show px_w32 (400 * (q : Int)) = 400 * (q : Int) from ty_w (by omega), show px_w32 (400 * (q : Int) + na k) = 400 * (q : Int) + na k from ty_w (by omega), show px_w32 (k + 1) = k + 1 from ty_w (by omega)] at hb
    obtain ⟨j, hj⟩ : ∃ j : MI, j = px_up (px_up i 128 (10 * (q : Int) + k) (i 136 k)) 129 (10 * (q : Int) + k) (400 * (q : Int) + na k) := ⟨_, rfl⟩
    rw [← hj] at hb
    have cj : ty_ch [128, 129] i j := by
      rw [hj]
      exact ty_ch_tr (ty_ch_up (S := [128]) (by decide)) (ty_ch_up (S := [129]) (by decide)) rfl rfl
    obtain ⟨i1, r1, c1, g1, g2⟩ := tz_181_a hr d l q c hq hc na hna n j (k + 1) (by omega) (by omega) (by rw [cj 123 (by decide)]; exact h29) (by rw [cj 137 (by decide)]; exact h137)
    refine ⟨i1, ?_, ty_ch_tr cj c1 rfl rfl, fun x x0 x1 => ?_, fun x hx => ?_⟩
    · rw [hb (by intros; omega) (by intros; omega), if_neg (by omega)]
      exact r1
    · by_cases e : x = k
      · have g3 := g2 (10 * (q : Int) + x) (by omega)
        rw [g3.1, g3.2, e, hj, ty_up_k (by decide), ty_up_eq, ty_up_eq]
        exact ⟨rfl, rfl⟩
      · have g3 := g1 x (by omega) x1
        rw [g3.1, g3.2, cj 136 (by decide)]
        exact ⟨rfl, rfl⟩
    · have g3 := g2 x (by omega)
      rw [g3.1, g3.2, hj, ty_up_k (by decide), ty_up_j (by omega), ty_up_j (by omega), ty_up_k (by decide)]
      exact ⟨rfl, rfl⟩
theorem tz_181_b (hr : px_hr r) (d : Nat) (l : MI) (q c : Nat) (hq : q < 6) (hc : c < 400) : ∀ (n : Nat) (i : MI) (k : Int), 0 ≤ k → k + n = c → i 123 33 = (c : Int) →
    ∃ i1 : MI, px_X d 181 (68, [vR 123, vI (q : Int), vI k], []) (px_sh L, i, l, r, tt) = some (none, (px_sh L, i1, l, r, tt)) ∧ ty_ch [130, 131] i i1 ∧ (∀ x : Int, k ≤ x → x < (c : Int) → i1 130 (400 * q + x) = i 138 x ∧ i1 131 (400 * q + x) = i 139 x) ∧ ∀ x : Int, ¬ (400 * q + k ≤ x ∧ x < 400 * q + c) → i1 130 x = i 130 x ∧ i1 131 x = i 131 x
  | 0, i, k, h0, hn, h33 => by
    have hb := b181_68 (L := L) (t := tt) hr d i l (q : Int) k
    rw [h33] at hb
    refine ⟨i, ?_, ty_ch_rf, fun x x0 x1 => by omega, fun x _ => ⟨rfl, rfl⟩⟩
    rw [hb (by intros; omega) (by intros; omega), if_pos (by omega)]
  | n + 1, i, k, h0, hn, h33 => by
    have hb := b181_68 (L := L) (t := tt) hr d i l (q : Int) k
    rw [h33, show px_w32 (400 * (q : Int)) = 400 * (q : Int) from ty_w (by omega), show px_w32 (400 * (q : Int) + k) = 400 * (q : Int) + k from ty_w (by omega), show px_w32 (k + 1) = k + 1 from ty_w (by omega)] at hb
    obtain ⟨j, hj⟩ : ∃ j : MI, j = px_up (px_up i 130 (400 * (q : Int) + k) (i 138 k)) 131 (400 * (q : Int) + k) (i 139 k) := ⟨_, rfl⟩
    rw [← hj] at hb
    have cj : ty_ch [130, 131] i j := by
      rw [hj]
      exact ty_ch_tr (ty_ch_up (S := [130]) (by decide)) (ty_ch_up (S := [131]) (by decide)) rfl rfl
    obtain ⟨i1, r1, c1, g1, g2⟩ := tz_181_b hr d l q c hq hc n j (k + 1) (by omega) (by omega) (by rw [cj 123 (by decide)]; exact h33)
    refine ⟨i1, ?_, ty_ch_tr cj c1 rfl rfl, fun x x0 x1 => ?_, fun x hx => ?_⟩
    · rw [hb (by intros; omega) (by intros; omega), if_neg (by omega)]
      exact r1
    · by_cases e : x = k
      · have g3 := g2 (400 * (q : Int) + x) (by omega)
        rw [g3.1, g3.2, e, hj, ty_up_k (by decide), ty_up_eq, ty_up_eq]
        exact ⟨rfl, rfl⟩
      · have g3 := g1 x (by omega) x1
        rw [g3.1, g3.2, cj 138 (by decide), cj 139 (by decide)]
        exact ⟨rfl, rfl⟩
    · have g3 := g2 x (by omega)
      rw [g3.1, g3.2, hj, ty_up_k (by decide), ty_up_j (by omega), ty_up_j (by omega), ty_up_k (by decide)]
      exact ⟨rfl, rfl⟩
theorem tz_181 (hr : px_hr r) (d : Nat) (i l : MI) (q c n : Nat) (hq : q < 6) (hc : c ≤ 10) (hn : n < 400) (h29 : i 123 29 = (c : Int)) (h33 : i 123 33 = (n : Int)) (hna : ∀ x : Int, 0 ≤ x → x < (c : Int) → 0 ≤ i 137 x ∧ i 137 x ≤ 400) :
    ∃ i1 : MI, px_C d 181 [vR 123, vI (q : Int)] (px_sh L, i, l, r, tt) = some (none, (px_sh L, i1, l, r, tt)) ∧ ty_ch [127, 128, 129, 130, 131] i i1 ∧ (i1 127 (q : Int) = (c : Int) ∧ ∀ x : Int, x ≠ (q : Int) → i1 127 x = i 127 x) ∧
      ((∀ x : Int, 0 ≤ x → x < (c : Int) → i1 128 (10 * q + x) = i 136 x ∧ i1 129 (10 * q + x) = 400 * q + i 137 x) ∧ ∀ x : Int, ¬ (10 * q ≤ x ∧ x < 10 * q + 10) → i1 128 x = i 128 x ∧ i1 129 x = i 129 x) ∧
      (∀ x : Int, 0 ≤ x → x < (n : Int) → i1 130 (400 * q + x) = i 138 x ∧ i1 131 (400 * q + x) = i 139 x) ∧ ∀ x : Int, ¬ (400 * q ≤ x ∧ x < 400 * q + 400) → i1 130 x = i 130 x ∧ i1 131 x = i 131 x := by
  obtain ⟨j, hj⟩ : ∃ j : MI, j = px_up i 127 (q : Int) (c : Int) := ⟨_, rfl⟩
  have cj : ty_ch [127] i j := by
    rw [hj]
    exact ty_ch_up (by decide)
  obtain ⟨i1, r1, c1, g1, g2⟩ := tz_181_a (L := L) (r := r) (tt := tt) hr d l q c hq hc (i 137) hna c j 0 (by omega) (by omega) (by rw [cj 123 (by decide)]; exact h29) (by rw [cj 137 (by decide)]; exact fun x _ _ => rfl)
  have c01 : ty_ch [127, 128, 129] i i1 := ty_ch_tr cj c1 rfl rfl
  obtain ⟨i2, r2, c2, g3, g4⟩ := tz_181_b (L := L) (r := r) (tt := tt) hr d l q n hq hn n i1 0 (by omega) (by omega) (by rw [c01 123 (by decide)]; exact h33)
  have e127 : i2 127 = j 127 := by rw [c2 127 (by decide), c1 127 (by decide)]
  refine ⟨i2, ?_, ty_ch_tr c01 c2 rfl rfl, ⟨by rw [e127, hj, ty_up_eq], fun x hx => by rw [e127, hj, ty_up_j hx]⟩, ⟨fun x x0 x1 => ?_, fun x hx => ?_⟩, fun x x0 x1 => ?_, fun x hx => ?_⟩
  · rw [e181, b181_0 hr _ _ _ _ (by omega), h29, ← hj, r1, r2]
  · have g5 := g1 x x0 x1
    rw [c2 128 (by decide), c2 129 (by decide), g5.1, g5.2, cj 136 (by decide)]
    exact ⟨rfl, rfl⟩
  · have g5 := g2 x (by omega)
    rw [c2 128 (by decide), c2 129 (by decide), g5.1, g5.2, cj 128 (by decide), cj 129 (by decide)]
    exact ⟨rfl, rfl⟩
  · have g5 := g3 x x0 x1
    rw [g5.1, g5.2, c01 138 (by decide), c01 139 (by decide)]
    exact ⟨rfl, rfl⟩
  · have g5 := g4 x (by omega)
    rw [g5.1, g5.2, c01 130 (by decide), c01 131 (by decide)]
    exact ⟨rfl, rfl⟩
/-- the reference's reading from its start -/
theorem tz_180 (hr : px_hr r) {T : Int → Int} {N m : Nat} (d : Nat) (j l : MI) (hN : N ≤ 300) (hT : ∀ x : Nat, x < N → 0 ≤ T (x : Int) ∧ T (x : Int) ≤ 255) (hm : m ≤ N) (hps : tz_ps T N m = N) (hlt : ∀ x, x < m → tz_ps T N x < N) (h6 : j 123 6 = (N : Int)) (h126 : ∀ x : Int, 0 ≤ x → x < (N : Int) → j 126 x = px_i2b (T x)) (h5 : ¬ j 124 5 = 6) (R : (Int × Nat) ⊕ tz_RS) (hto : tz_to (tz_tK T N) (tz_tU T N) m (0, 0, [], [], 4, [], [], 0) R) (hR : (∃ e t, R = .inl (e, t)) ∨ ∃ D kd, R = .inr (m, 0, [], [], 4, [], D, kd)) :
    ∃ j1 : MI, px_C (d + 5 + 1) 180 [vR 123] (px_sh L, j, l, r, tt) = px_X (d + 5 + 1) 180 (167, [vR 123], []) (px_sh L, j1, l, r, tt) ∧ tz_q tz_KS [6, 14, 15, 16, 17, 18, 19, 20, 21, 22, 25, 28, 29, 30, 33] j j1 ∧ j1 123 6 = 0 ∧ tz_end (tz_tK T N) (tz_tU T N) (tz_tP T N) (tz_tB T N) T (N : Int) m R j1 := by
  have hK := tz_tk_ok hN hm hps hlt
  have hX := tz_NX_ok hN hT hm hps hlt
  obtain ⟨ja, hja⟩ : ∃ ja : MI, ja = px_up (px_up (px_up (px_up (px_up (px_up (px_up (px_up (px_up (px_up (px_up j 123 14 (N : Int)) 123 6 0) 123 15 0) 123 19 0) 123 20 (-1)) 123 21 0) 123 22 0) 123 25 0) 123 28 4) 123 29 0) 123 33 0 := ⟨_, rfl⟩
  have ra : ∀ k : Nat, k ≠ 123 → ja k = j k := fun k hk => by rw [hja, ty_up_row hk, ty_up_row hk, ty_up_row hk, ty_up_row hk, ty_up_row hk, ty_up_row hk, ty_up_row hk, ty_up_row hk, ty_up_row hk, ty_up_row hk, ty_up_row hk]
  have qa : tz_q [] [6, 14, 15, 19, 20, 21, 22, 25, 28, 29, 33] j ja := ⟨fun k hk _ => ra k hk, fun f hf => by
    simp only [List.mem_cons, List.not_mem_nil, or_false, not_or] at hf
    obtain ⟨f1, f2, f3, f4, f5, f6, f7, f8, f9, f10, f11⟩ := hf
    rw [hja, ty_up_j f11, ty_up_j f10, ty_up_j f9, ty_up_j f8, ty_up_j f7, ty_up_j f6, ty_up_j f5, ty_up_j f4, ty_up_j f3, ty_up_j f1, ty_up_j f2]⟩
  have fld : ja 123 33 = 0 ∧ ja 123 29 = 0 ∧ ja 123 28 = 4 ∧ ja 123 25 = 0 ∧ ja 123 22 = 0 ∧ ja 123 21 = 0 ∧ ja 123 20 = -1 ∧ ja 123 19 = 0 ∧ ja 123 15 = 0 ∧ ja 123 6 = 0 ∧ ja 123 14 = (N : Int) := by
    rw [hja]
    refine ⟨rfl, rfl, rfl, rfl, rfl, rfl, rfl, rfl, rfl, rfl, rfl⟩
  obtain ⟨f33, f29, f28, f25, f22, f21, f20, f19, f15, f6, f14⟩ := fld
  have htr : tz_tr T N ja := ⟨f14, ⟨hN, hT⟩, fun x x0 x1 => by rw [ra 126 (by decide)]; exact h126 x x0 x1⟩
  obtain ⟨jb, rb, qb, g16, g⟩ := tz_158 (L := L) (r := r) (tt := tt) (T := T) (N := N) hr (d + 2) ja l 0 (by omega) htr f15
  have eps : tz_sk T (N - 0) 0 = tz_ps T N 0 := by rw [Nat.sub_zero]; rfl
  rw [eps] at g16 g
  have hRC : tz_RC (tz_tK T N) (tz_tU T N) (tz_tP T N) (tz_tB T N) T (N : Int) m (0, 0, [], [], 4, [], [], 0) jb := by
    refine ⟨⟨Nat.zero_le _, ?_, ?_, ?_, g16, ?_⟩, ⟨?_, trivial⟩, ⟨?_, trivial⟩, ⟨?_, trivial⟩, ⟨?_, trivial, fun h => absurd rfl h⟩, ?_, ?_, ?_, ?_⟩
    · rw [qb.2 14 (by decide)]
      exact f14
    · rw [qb.1 126 (by decide) (by decide)]
      exact htr.2.2
    · unfold tz_tB
      rcases g with ⟨g1, g2, g3⟩ | ⟨g1, g2, g3⟩
      · rw [if_neg (by omega), g2]
      · rw [if_pos g1, g2]
    · unfold tz_tK tz_tU
      rcases g with ⟨g1, g2, g3⟩ | ⟨g1, g2, g3⟩
      · rw [if_neg (by omega), g3]
        exact Or.inl ⟨rfl, rfl⟩
      · rw [if_pos g1]
        exact g3
    · rw [qb.2 22 (by decide)]
      exact f22
    · rw [qb.2 25 (by decide)]
      exact f25
    · rw [qb.2 33 (by decide)]
      exact f33
    · rw [qb.2 29 (by decide)]
      exact f29
    · rw [qb.2 19 (by decide)]
      exact f19
    · rw [qb.2 20 (by decide)]
      exact f20
    · rw [qb.2 21 (by decide)]
      exact f21
    · rw [qb.2 28 (by decide)]
      exact f28
  obtain ⟨n, hn⟩ := hto
  obtain ⟨j1, r1, q1, e1⟩ := tz_run (L := L) (r := r) (tt := tt) hr hX hK.2.1 d l n _ R jb hn hRC
  have q01 : tz_q tz_KS [6, 14, 15, 16, 17, 18, 19, 20, 21, 22, 25, 28, 29, 30, 33] j j1 := tz_q_tr (tz_q_tr qa qb (Kc'' := []) (Fs'' := [6, 14, 15, 16, 17, 18, 19, 20, 21, 22, 25, 28, 29, 33]) rfl rfl rfl rfl) q1 rfl rfl rfl rfl
  refine ⟨j1, ?_, q01, ?_, e1⟩
  · have rb' : px_C (d + 5) 158 [vR 123] (px_sh L, ja, l, r, tt) = some (none, (px_sh L, jb, l, r, tt)) := rb
    rw [e180, b180_0 hr, if_neg h5, h6, ← hja, rb', Option.bind_some, px_psh_none, r1, b180_75 hr]
    rcases hR with ⟨e, t, hR⟩ | ⟨D, kd, hR⟩
    · have hpos := tz_to_pos (K := tz_tK T N) (U := tz_tU T N) (m := m) (A := (0, 0, [], [], 4, [], [], 0)) (e := e) (t := t) ⟨n, by rw [← hR]; exact hn⟩
      rw [hR] at e1
      have e19 : j1 123 19 = e := e1.1
      rw [if_neg (by omega)]
    · rw [hR] at e1
      obtain ⟨⟨-, -, -, -, -, p6⟩, -, -, -, -, g19, -, -, g28⟩ := e1
      have hz := tz_k0 p6
      have hKm := (hK.2.1 m (Nat.le_refl _)).mpr rfl
      rw [if_pos g19, if_pos g28, if_pos (hz.mpr hKm)]
  · rw [q1.2 6 (by decide), qb.2 6 (by decide), f6]
end TYW2
