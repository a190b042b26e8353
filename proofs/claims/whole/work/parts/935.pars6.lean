/-! text: the class's reader, small pieces. -/
/-- the class's codes: none has an end -/
def tz_gl : List (Int × List Int) → List Int
  | [] => []
  | (_, C) :: D => C ++ tz_gl D
theorem tz_fl_len : ∀ D : List (Int × List Int), (tz_fl D).length = (tz_gl D).length + D.length
  | [] => rfl
  | (a, C) :: D => by
    show (-1 :: C ++ tz_fl D).length = (C ++ tz_gl D).length + ((a, C) :: D).length
    rw [List.length_append, List.length_append, List.length_cons, List.length_cons, tz_fl_len D]
    omega
def tz_hX (f : Int → Int) : List Int → Prop
  | [] => True
  | c :: cs => f cs.length = c ∧ tz_hX f cs
theorem tz_hX_c {f f' : Int → Int} : ∀ {cs : List Int}, (∀ x : Int, 0 ≤ x → x < cs.length → f' x = f x) → tz_hX f cs → tz_hX f' cs
  | [], _, _ => trivial
  | c :: cs, h, hh => by
    have h1 := h cs.length (by omega) (by rw [List.length_cons]; omega)
    unfold tz_hX
    rw [h1]
    exact ⟨hh.1, tz_hX_c (fun x x0 x1 => h x x0 (by rw [List.length_cons]; omega)) hh.2⟩
/-- the kinds of what waits, codes the latest first -/
def tz_ck : List Int → Option (List Bool)
  | [] => some []
  | c :: cs => (tz_ck cs).bind (ty_step c)
def tz_mc (kd : Int) (C : List Int) : Prop := ∀ c, c ∈ C → 0 ≤ c ∧ (10033 ≤ c → ty_may kd (c - 10033))
theorem tz_mc_cons {kd c : Int} {C : List Int} (h : 0 ≤ c ∧ (10033 ≤ c → ty_may kd (c - 10033))) (hC : tz_mc kd C) : tz_mc kd (c :: C) := fun x hx => by
  rcases List.mem_cons.mp hx with e | e
  · rw [e]
    exact h
  · exact hC x e
/-- only what the reading may change changes -/
def tz_cq (i i1 : MI) : Prop := (∀ k : Nat, k ≠ 58 → k ≠ 59 → k ≠ 60 → i1 k = i k) ∧ (∀ f : Int, f ≠ 3 → f ≠ 4 → f ≠ 9 → f ≠ 10 → i1 58 f = i 58 f) ∧ (∀ f : Int, f ≠ 0 → i1 59 f = i 59 f) ∧ (i1 58 3 = 0 → i 58 3 = 0 ∧ i1 58 4 = i 58 4)
theorem tz_cq_rf {i : MI} : tz_cq i i := ⟨fun _ _ _ _ => rfl, fun _ _ _ _ _ => rfl, fun _ _ => rfl, fun h => ⟨h, rfl⟩⟩
theorem tz_cq_tr {i i1 i2 : MI} (h : tz_cq i i1) (h' : tz_cq i1 i2) : tz_cq i i2 := ⟨fun k a b c => (h'.1 k a b c).trans (h.1 k a b c), fun f a b c d => (h'.2.1 f a b c d).trans (h.2.1 f a b c d), fun f a => (h'.2.2.1 f a).trans (h.2.2.1 f a), fun g => ⟨(h.2.2.2 (h'.2.2.2 g).1).1, (h'.2.2.2 g).2.trans (h.2.2.2 (h'.2.2.2 g).1).2⟩⟩
theorem tz_cq_8 {i : MI} {f v : Int} (h : f = 9 ∨ f = 10) : tz_cq i (px_up i 58 f v) := ⟨fun k a _ _ => ty_up_row a, fun g a b c d => ty_up_j (by omega), fun _ _ => ty_up_k (by decide), fun g => by
  rw [ty_up_j (by omega)] at g
  rw [ty_up_j (by omega)]
  exact ⟨g, rfl⟩⟩
/-- the class's state while it reads -/
def tz_cm (K U PL : Nat → Int) (m : Nat) (kd : Int) (t : Nat) (o : Int) (X : List Int) (i : MI) : Prop :=
  ((∀ x : Nat, x ≤ m → i 65 (x : Int) = K x ∧ i 66 (x : Int) = PL x) ∧ ∀ x : Nat, x < m → i 67 (x : Int) = U x) ∧
  (0 ≤ i 58 11 ∧ i 58 11 < 2147483648 ∧ ∀ v : Int, 0 ≤ v → v < 15 → ty_bit (i 58 11) v = tz_mb kd v) ∧
  (i 58 3 = 0 ∧ i 58 9 = (t : Int) ∧ i 58 10 = o) ∧ i 59 0 = (X.length : Int) ∧ tz_hX (i 60) X
theorem tz_cm_8 {K U PL : Nat → Int} {m : Nat} {kd : Int} {t t' : Nat} {o o' : Int} {X : List Int} {i i' : MI} (h : tz_cm K U PL m kd t o X i) (h1 : ∀ k : Nat, k ≠ 58 → i' k = i k) (h2 : i' 58 11 = i 58 11) (h3 : i' 58 3 = 0) (h9 : i' 58 9 = (t' : Int)) (h10 : i' 58 10 = o') : tz_cm K U PL m kd t' o' X i' := by
  unfold tz_cm
  rw [h1 65 (by decide), h1 66 (by decide), h1 67 (by decide), h1 59 (by decide), h1 60 (by decide), h2, h3, h9, h10]
  exact ⟨h.1, h.2.1, ⟨rfl, rfl, rfl⟩, h.2.2.2⟩
/-- a fault is kept -/
def tz_er (e p : Int) (i : MI) : Prop := i 58 3 = e ∧ i 58 4 = p ∧ ¬ e = 0
section TYCB
variable {L tt : Nat} {r : MR}
theorem tz_33k (hr : px_hr r) (d : Nat) (i l : MI) (x : Int) : ∃ v : Int, px_C d 33 [vR 65, vI x] (px_sh L, i, l, r, tt) = some (some (vI v), (px_sh L, i, l, r, tt)) := ⟨_, q33 hr _ _ _ (px_s65 L) (Nat.le_of_ble_eq_true rfl) _⟩
theorem tz_33 (hr : px_hr r) {K U PL : Nat → Int} {m : Nat} {kd : Int} {t : Nat} {o : Int} {X : List Int} (d : Nat) (i l : MI) (h : tz_cm K U PL m kd t o X i) (ht : t ≤ m) (hm : m ≤ 300) : px_C d 33 [vR 65, vI (i 58 9)] (px_sh L, i, l, r, tt) = some (some (vI (K t)), (px_sh L, i, l, r, tt)) := by
  have h1 := (h.1.1 t ht).1
  rw [h.2.2.1.2.1, q33i hr _ _ _ (px_s65 L) (Nat.le_of_ble_eq_true rfl) _ (by omega), h1]
theorem tz_33n (hr : px_hr r) {K U PL : Nat → Int} {m : Nat} {kd : Int} {t : Nat} {o : Int} {X : List Int} (d : Nat) (i l : MI) (h : tz_cm K U PL m kd t o X i) (ht : t < m) (hm : m ≤ 300) : px_C d 33 [vR 67, vI (i 58 9)] (px_sh L, i, l, r, tt) = some (some (vI (U t)), (px_sh L, i, l, r, tt)) := by
  have h1 := h.1.2 t ht
  rw [h.2.2.1.2.1, q33i hr _ _ _ (px_s67 L) (Nat.le_of_ble_eq_true rfl) _ (by omega), h1]
/-- add -/
theorem tz_135 (hr : px_hr r) {K U PL : Nat → Int} {m : Nat} {kd : Int} {t : Nat} {o : Int} {X : List Int} (d : Nat) (i l : MI) (c : Int) (h : tz_cm K U PL m kd t o X i) (hl : X.length < 300) :
    ∃ i1 : MI, px_C d 135 [vR 59, vI c] (px_sh L, i, l, r, tt) = some (none, (px_sh L, i1, l, r, tt)) ∧ tz_cm K U PL m kd t o (c :: X) i1 ∧ tz_cq i i1 := by
  have h0 := h.2.2.2.1
  have w : px_w32 ((X.length : Int) + 1) = (X.length : Int) + 1 := ty_w (by omega)
  have hb := b135_0 (L := L) (t := tt) hr d i l c
  rw [h0, w] at hb
  obtain ⟨i1, hi1⟩ : ∃ i1 : MI, i1 = px_up (px_up i 60 (X.length : Int) c) 59 0 ((X.length : Int) + 1) := ⟨_, rfl⟩
  rw [← hi1] at hb
  have e58 : i1 58 = i 58 := by rw [hi1, ty_up_row (by decide), ty_up_row (by decide)]
  have e65 : i1 65 = i 65 := by rw [hi1, ty_up_row (by decide), ty_up_row (by decide)]
  have e66 : i1 66 = i 66 := by rw [hi1, ty_up_row (by decide), ty_up_row (by decide)]
  have e67 : i1 67 = i 67 := by rw [hi1, ty_up_row (by decide), ty_up_row (by decide)]
  refine ⟨i1, ?_, ⟨?_, ?_, ?_, ?_, ?_, ?_⟩, fun k a b c => ?_, fun f _ _ _ _ => by rw [e58], fun f hf => ?_, fun g => by
    rw [e58] at g ⊢
    exact ⟨g, rfl⟩⟩
  · rw [e135, hb (by intros; omega), if_neg (by omega), if_neg (by omega)]
  · rw [e65, e66, e67]
    exact h.1
  · rw [e58]
    exact h.2.1
  · rw [e58]
    exact h.2.2.1
  · rw [hi1, ty_up_eq, List.length_cons]
    omega
  · rw [hi1, ty_up_k (by decide), ty_up_eq]
  · refine tz_hX_c (fun x x0 x1 => ?_) h.2.2.2.2
    rw [hi1, ty_up_k (by decide), ty_up_j (by omega)]
  · rw [hi1, ty_up_row b, ty_up_row c]
  · rw [hi1, ty_up_j hf, ty_up_k (by decide)]
theorem tz_135e (hr : px_hr r) (d : Nat) (i l : MI) (c e p : Int) (h : tz_er e p i) :
    ∃ i1 : MI, px_C d 135 [vR 59, vI c] (px_sh L, i, l, r, tt) = some (none, (px_sh L, i1, l, r, tt)) ∧ tz_er e p i1 ∧ tz_cq i i1 := by
  rw [e135, b135_0 hr _ _ _ _ (by intros; omega)]
  by_cases h1 : i 59 0 < 0
  · rw [if_pos h1]
    exact ⟨i, rfl, h, tz_cq_rf⟩
  · rw [if_neg h1]
    by_cases h2 : 300 ≤ i 59 0
    · rw [if_pos h2]
      exact ⟨i, rfl, h, tz_cq_rf⟩
    · rw [if_neg h2]
      obtain ⟨i1, hi1⟩ : ∃ i1 : MI, i1 = px_up (px_up i 60 (i 59 0) c) 59 0 (px_w32 (i 59 0 + 1)) := ⟨_, rfl⟩
      rw [← hi1]
      have e58 : i1 58 = i 58 := by rw [hi1, ty_up_row (by decide), ty_up_row (by decide)]
      refine ⟨i1, rfl, ⟨by rw [e58]; exact h.1, by rw [e58]; exact h.2.1, h.2.2⟩, fun k a b c => ?_, fun f _ _ _ _ => by rw [e58], fun f hf => ?_, fun g => by
        rw [e58] at g ⊢
        exact ⟨g, rfl⟩⟩
      · rw [hi1, ty_up_row b, ty_up_row c]
      · rw [hi1, ty_up_j hf, ty_up_k (by decide)]
/-- blame -/
theorem tz_101 (hr : px_hr r) {K U PL : Nat → Int} {m : Nat} {kd : Int} {t : Nat} {o : Int} {X : List Int} (d : Nat) (i l : MI) (e : Int) (he : ¬ e = 0) (h : tz_cm K U PL m kd t o X i) (ht : t ≤ m) (hm : m ≤ 300) :
    ∃ i1 : MI, px_C d 101 [vR 58, vI e] (px_sh L, i, l, r, tt) = some (none, (px_sh L, i1, l, r, tt)) ∧ tz_er e (PL t) i1 ∧ tz_cq i i1 := by
  have h1 := (h.1.1 t ht).2
  obtain ⟨h3, h9, h10⟩ := h.2.2.1
  have hb := b101_0 (L := L) (t := tt) hr d i l e
  rw [h3, h9, h1] at hb
  refine ⟨px_up (px_up i 58 3 e) 58 4 (PL t), ?_, ⟨?_, ty_up_eq, he⟩, fun k a _ _ => ?_, fun f a b _ _ => ?_, fun f _ => ?_, fun g => ?_⟩
  · rw [e101, hb (by intros; omega), if_pos rfl, if_neg (by omega), if_neg (by omega)]
  · rw [ty_up_j (by decide), ty_up_eq]
  · rw [ty_up_row a, ty_up_row a]
  · rw [ty_up_j b, ty_up_j a]
  · rw [ty_up_k (by decide), ty_up_k (by decide)]
  · rw [ty_up_j (by decide), ty_up_eq] at g
    exact absurd g he
theorem tz_101e (hr : px_hr r) (d : Nat) (i l : MI) (x e p : Int) (h : tz_er e p i) : px_C d 101 [vR 58, vI x] (px_sh L, i, l, r, tt) = some (none, (px_sh L, i, l, r, tt)) := by
  have h1 := h.1
  have h2 := h.2.2
  rw [e101, b101_0 hr _ _ _ _ (fun g => absurd (h1.symm.trans g) h2), if_neg (fun g => h2 (h1.symm.trans g))]
theorem tz_er_8 {e p f v : Int} {i : MI} (h : tz_er e p i) (h3 : f ≠ 3) (h4 : f ≠ 4) : tz_er e p (px_up i 58 f v) := ⟨by rw [ty_up_j (by omega)]; exact h.1, by rw [ty_up_j (by omega)]; exact h.2.1, h.2.2⟩
/-! readOne's end. -/
theorem tz_one_l (hr : px_hr r) {K U PL : Nat → Int} {m : Nat} {kd : Int} {t : Nat} {o : Int} (d : Nat) (l : MI) (x1 x2 : Int) (h1 : x1 ≤ 300) : ∀ (n : Nat) (x3 : Int) (i : MI) (X : List Int), 0 ≤ x3 → x3 + n = x1 → tz_cm K U PL m kd t o X i → X.length + n ≤ 300 → -1000 ≤ o ∧ o ≤ 1000 →
    ∃ i1 : MI, px_X (d + 1) 106 (282, [vR 58, vI x1, vI x2, vI x3], []) (px_sh L, i, l, r, tt) = some (none, (px_sh L, i1, l, r, tt)) ∧ tz_cm K U PL m kd t (o - x1) (List.replicate n 10020 ++ X) i1 ∧ tz_cq i i1
  | 0, x3, i, X, h0, hn, h, hl, ho => by
    have h10 := h.2.2.1.2.2
    have w : px_w32 (o - x1) = o - x1 := ty_w (by omega)
    refine ⟨px_up i 58 10 (o - x1), ?_, ?_, tz_cq_8 (by omega)⟩
    · rw [b106_282 hr, if_pos (by omega), h10, w]
    · exact tz_cm_8 h (fun k hk => ty_up_row hk) (ty_up_j (by decide)) (by rw [ty_up_j (by decide)]; exact h.2.2.1.1) (by rw [ty_up_j (by decide)]; exact h.2.2.1.2.1) ty_up_eq
  | n + 1, x3, i, X, h0, hn, h, hl, ho => by
    have w : px_w32 (x3 + 1) = x3 + 1 := ty_w (by omega)
    obtain ⟨i1, r1, c1, q1⟩ := tz_135 (L := L) (r := r) (tt := tt) hr d i l 10020 h (by omega)
    obtain ⟨i2, r2, c2, q2⟩ := tz_one_l hr d l x1 x2 h1 n (x3 + 1) i1 (10020 :: X) (by omega) (by omega) c1 (by rw [List.length_cons]; omega) ho
    refine ⟨i2, ?_, ?_, tz_cq_tr q1 q2⟩
    · rw [b106_282 hr, if_neg (by omega), r1, Option.bind_some, px_psh_none, b106_297 hr, w, r2]
    · have e : List.replicate (n + 1) (10020 : Int) ++ X = List.replicate n 10020 ++ (10020 :: X) := by
        rw [List.replicate_succ', List.append_assoc]
        rfl
      rw [e]
      exact c2
theorem tz_one_le (hr : px_hr r) (d : Nat) (l : MI) (x1 x2 e p : Int) (h1 : x1 ≤ 300) : ∀ (n : Nat) (x3 : Int) (i : MI), 0 ≤ x3 → x3 + n = x1 → tz_er e p i →
    ∃ i1 : MI, px_X (d + 1) 106 (282, [vR 58, vI x1, vI x2, vI x3], []) (px_sh L, i, l, r, tt) = some (none, (px_sh L, i1, l, r, tt)) ∧ tz_er e p i1 ∧ tz_cq i i1
  | 0, x3, i, h0, hn, h => by
    exact ⟨px_up i 58 10 (px_w32 (i 58 10 - x1)), by rw [b106_282 hr, if_pos (by omega)], tz_er_8 h (by decide) (by decide), tz_cq_8 (by omega)⟩
  | n + 1, x3, i, h0, hn, h => by
    have w : px_w32 (x3 + 1) = x3 + 1 := ty_w (by omega)
    obtain ⟨i1, r1, c1, q1⟩ := tz_135e (L := L) (r := r) (tt := tt) hr d i l 10020 e p h
    obtain ⟨i2, r2, c2, q2⟩ := tz_one_le hr d l x1 x2 e p h1 n (x3 + 1) i1 (by omega) (by omega) c1
    exact ⟨i2, by rw [b106_282 hr, if_neg (by omega), r1, Option.bind_some, px_psh_none, b106_297 hr, w, r2], c2, tz_cq_tr q1 q2⟩
/-- the end of readOne -/
theorem tz_one_t (hr : px_hr r) {K U PL : Nat → Int} {m : Nat} {kd : Int} {t : Nat} {o : Int} (d : Nat) (i l : MI) (n : Nat) (x2 : Int) (hn : n ≤ 300) (X : List Int) (h : tz_cm K U PL m kd t o X i) (hl : X.length + n ≤ 300) (ho : -1000 ≤ o ∧ o ≤ 1000) (ht : t ≤ 300) :
    ∃ i1 : MI, px_X (d + 1) 106 (270, [vR 58, vI (n : Int), vI x2, vJ], []) (px_sh L, i, l, r, tt) = some (none, (px_sh L, i1, l, r, tt)) ∧ tz_cm K U PL m kd (t + 1) (o - n) (List.replicate n 10020 ++ X) i1 ∧ tz_cq i i1 := by
  have h9 := h.2.2.1.2.1
  have w : px_w32 ((t : Int) + 1) = ((t + 1 : Nat) : Int) := by rw [ty_w (by omega)]; omega
  have hc : tz_cm K U PL m kd (t + 1) o X (px_up i 58 9 ((t + 1 : Nat) : Int)) := tz_cm_8 h (fun k hk => ty_up_row hk) (ty_up_j (by decide)) (by rw [ty_up_j (by decide)]; exact h.2.2.1.1) ty_up_eq (by rw [ty_up_j (by decide)]; exact h.2.2.1.2.2)
  obtain ⟨i1, r1, c1, q1⟩ := tz_one_l (L := L) (r := r) (tt := tt) hr d l (n : Int) x2 (by omega) n 0 (px_up i 58 9 ((t + 1 : Nat) : Int)) X (by omega) (by omega) hc hl ho
  exact ⟨i1, by rw [b106_270 hr, h9, w, r1], c1, tz_cq_tr (tz_cq_8 (by omega)) q1⟩
theorem tz_one_te (hr : px_hr r) (d : Nat) (i l : MI) (n : Nat) (x2 e p : Int) (hn : n ≤ 300) (h : tz_er e p i) :
    ∃ i1 : MI, px_X (d + 1) 106 (270, [vR 58, vI (n : Int), vI x2, vJ], []) (px_sh L, i, l, r, tt) = some (none, (px_sh L, i1, l, r, tt)) ∧ tz_er e p i1 ∧ tz_cq i i1 := by
  obtain ⟨i1, r1, c1, q1⟩ := tz_one_le (L := L) (r := r) (tt := tt) hr d l (n : Int) x2 e p (by omega) n 0 (px_up i 58 9 (px_w32 (i 58 9 + 1))) (by omega) (by omega) (tz_er_8 h (by decide) (by decide))
  exact ⟨i1, by rw [b106_270 hr, r1], c1, tz_cq_tr (tz_cq_8 (by omega)) q1⟩
end TYCB
/-! Signs that wait, frames, bounds. -/
/-- frames and waiting signs fit -/
def tz_fw (o : Int) (F : List (Int × Int)) (W : List (Int × Nat)) : Prop := tz_bt F ∧ ((F.length : Int) ≤ o + 2 ∧ 0 ≤ o ∧ o ≤ 8 ∧ W.length + 2 ≤ 2 * F.length) ∧ ∀ x, x ∈ W.head? → x.2 < F.length
theorem tz_wk_no {f : Nat} {rk : Int} {W : List (Int × Nat)} {C : List Int} (h : ∀ x, x ∈ W.head? → x.2 < f) : tz_wk f rk W C = (W, C) := by
  cases W with
  | nil => rfl
  | cons x W =>
    obtain ⟨b, g⟩ := x
    have := h (b, g) rfl
    unfold tz_wk
    rw [if_neg (fun e => absurd e.1 (by
      have h2 : g < f := this
      omega))]
/-- what waits in a sum -/
def tz_pd (add sca : Int) (f : Nat) : List (Int × Nat) := (if sca = 0 then [] else [(sca, f)]) ++ (if add = 0 then [] else [(add, f)])
def tz_fs (x : Int) (C : List Int) : List Int := if x = 0 then C else (10000 + x) :: C
def tz_sg (add sca : Int) : Prop := (add = 0 ∨ add = 10 ∨ add = 11) ∧ (sca = 0 ∨ sca = 12 ∨ sca = 13)
theorem tz_rk_a {x : Int} (h : x = 10 ∨ x = 11) : tz_rk x = 3 := by
  rcases h with rfl | rfl <;> rfl
theorem tz_rk_s {x : Int} (h : x = 12 ∨ x = 13) : tz_rk x = 4 := by
  rcases h with rfl | rfl <;> rfl
theorem tz_wk_4 {add sca : Int} (hs : tz_sg add sca) {f : Nat} {W : List (Int × Nat)} {C : List Int} (h : ∀ x, x ∈ W.head? → x.2 < f) : tz_wk f 4 (tz_pd add sca f ++ W) C = (tz_pd add 0 f ++ W, tz_fs sca C) := by
  have ha : ∀ C', tz_wk f 4 ((if add = 0 then [] else [(add, f)]) ++ W) C' = ((if add = 0 then [] else [(add, f)]) ++ W, C') := fun C' => by
    by_cases h0 : add = 0
    · rw [if_pos h0]
      exact tz_wk_no h
    · rw [if_neg h0]
      show (if f = f ∧ 4 ≤ tz_rk add then _ else _) = _
      have hs1 := hs.1
      rw [tz_rk_a (by omega), if_neg (by omega)]
      rfl
  unfold tz_pd tz_fs
  by_cases h0 : sca = 0
  · rw [if_pos h0, if_pos h0, if_pos rfl]
    exact ha C
  · rw [if_neg h0, if_neg h0, if_pos rfl]
    have hs2 := hs.2
    show (if f = f ∧ 4 ≤ tz_rk sca then tz_wk f 4 ((if add = 0 then [] else [(add, f)]) ++ W) ((10000 + sca) :: C) else _) = _
    rw [tz_rk_s (by omega), if_pos (by omega), ha]
    rfl
theorem tz_wk_3 {add sca : Int} (hs : tz_sg add sca) {rk : Int} (hr : rk ≤ 3) {f : Nat} {W : List (Int × Nat)} {C : List Int} (h : ∀ x, x ∈ W.head? → x.2 < f) : tz_wk f rk (tz_pd add sca f ++ W) C = (W, tz_fs add (tz_fs sca C)) := by
  have ha : ∀ C', tz_wk f rk ((if add = 0 then [] else [(add, f)]) ++ W) C' = (W, tz_fs add C') := fun C' => by
    unfold tz_fs
    by_cases h0 : add = 0
    · rw [if_pos h0, if_pos h0]
      exact tz_wk_no h
    · rw [if_neg h0, if_neg h0]
      have hs1 := hs.1
      show (if f = f ∧ rk ≤ tz_rk add then tz_wk f rk W ((10000 + add) :: C') else _) = _
      rw [tz_rk_a (by omega), if_pos (by omega)]
      exact tz_wk_no h
  have e : tz_fs add (tz_fs sca C) = tz_fs add (if sca = 0 then C else (10000 + sca) :: C) := rfl
  rw [e]
  unfold tz_pd
  by_cases h0 : sca = 0
  · rw [if_pos h0, if_pos h0]
    exact ha C
  · rw [if_neg h0, if_neg h0]
    have hs2 := hs.2
    show (if f = f ∧ rk ≤ tz_rk sca then tz_wk f rk ((if add = 0 then [] else [(add, f)]) ++ W) ((10000 + sca) :: C) else _) = _
    rw [tz_rk_s (by omega), if_pos (by omega), ha]
theorem tz_pd_len (add sca : Int) (f : Nat) : (tz_pd add sca f).length = (if sca = 0 then 0 else 1) + (if add = 0 then 0 else 1) := by
  unfold tz_pd
  rw [List.length_append]
  by_cases h : sca = 0 <;> by_cases h2 : add = 0
  · rw [if_pos h, if_pos h2, if_pos h, if_pos h2]; rfl
  · rw [if_pos h, if_neg h2, if_pos h, if_neg h2]; rfl
  · rw [if_neg h, if_pos h2, if_neg h, if_pos h2]; rfl
  · rw [if_neg h, if_neg h2, if_neg h, if_neg h2]; rfl
theorem tz_pd_hd (add sca : Int) (f : Nat) (W : List (Int × Nat)) (h : ∀ x, x ∈ W.head? → x.2 < f) : ∀ x, x ∈ (tz_pd add sca f ++ W).head? → x.2 < f + 1 := by
  intro x hx
  unfold tz_pd at hx
  by_cases h1 : sca = 0
  · rw [if_pos h1] at hx
    by_cases h2 : add = 0
    · rw [if_pos h2] at hx
      have := h x hx
      omega
    · rw [if_neg h2] at hx
      have e : x = (add, f) := (Option.some.inj hx).symm
      rw [e]
      show f < f + 1
      omega
  · rw [if_neg h1] at hx
    have e : x = (sca, f) := (Option.some.inj hx).symm
    rw [e]
    show f < f + 1
    omega
/-- minuses around a frame -/
theorem tz_ov_n (x code : Int) (F : List (Int × Int)) (hF : ∀ y, y ∈ F.head? → ¬ y.1 = x) : ∀ (n : Nat) (o : Int) (C : List Int), tz_ov x code (List.replicate n (x, 0) ++ F) o C = (F, o - n, List.replicate n code ++ C)
  | 0, o, C => by
    have e : tz_ov x code F o C = (F, o, C) := by
      cases F with
      | nil => rfl
      | cons y F =>
        obtain ⟨a, b⟩ := y
        have := hF (a, b) rfl
        unfold tz_ov
        rw [if_neg this]
    show tz_ov x code F o C = (F, o - ((0 : Nat) : Int), C)
    rw [e, show o - ((0 : Nat) : Int) = o by omega]
  | n + 1, o, C => by
    have e : List.replicate (n + 1) code ++ C = List.replicate n code ++ (code :: C) := by
      rw [List.replicate_succ', List.append_assoc]
      rfl
    rw [e, List.replicate_succ]
    show (if x = x then tz_ov x code (List.replicate n (x, 0) ++ F) (o - 1) (code :: C) else _) = _
    rw [if_pos rfl, tz_ov_n x code F hF n (o - 1) (code :: C), show o - 1 - (n : Int) = o - ((n + 1 : Nat) : Int) by omega]
theorem tz_bt_app (x : Int) (F : List (Int × Int)) (h : tz_bt F) : ∀ n : Nat, tz_bt (List.replicate n (x, 0) ++ F)
  | 0 => h
  | n + 1 => Or.inr (tz_bt_app x F h n)
