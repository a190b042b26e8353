/-! text: the reference's reader as a machine over tokens. A token is numbered as the class does it (kind K, number U). A state: token, how many are open, frames (kind, relation), waiting signs (kind, frame), state, codes of this clause (the latest first), clauses done (the latest first), kind of this clause. -/
abbrev tz_RS : Type := Nat × Int × List (Int × Int) × List (Int × Nat) × Int × List Int × List (Int × List Int) × Int
def tz_rk (b : Int) : Int := if b = 30 then 1 else if b = 31 then 2 else if b = 10 then 3 else if b = 11 then 3 else 4
/-- signs that wait in a frame, from a rank on, are put down -/
def tz_wk (f : Nat) (rk : Int) : List (Int × Nat) → List Int → List (Int × Nat) × List Int
  | [], C => ([], C)
  | (b, g) :: W, C => if g = f ∧ rk ≤ tz_rk b then tz_wk f rk W ((10000 + b) :: C) else ((b, g) :: W, C)
/-- frames of a kind are over -/
def tz_ov (x code : Int) : List (Int × Int) → Int → List Int → List (Int × Int) × Int × List Int
  | [], o, C => ([], o, C)
  | (a, b) :: F, o, C => if a = x then tz_ov x code F (o - 1) (code :: C) else ((a, b) :: F, o, C)
/-- may a clause of a kind use a name -/
def tz_mb (kd v : Int) : Bool := if kd = 0 then decide (v < 3) else if kd = 2 then decide (v = 3 ∨ v = 6 ∨ (11 ≤ v ∧ v ≤ 13)) else if kd = 3 then decide (v = 14) else if kd = 5 then decide (v = 0 ∨ v = 3 ∨ v = 5 ∨ v = 10) else decide (v = 0 ∨ (3 ≤ v ∧ v ≤ 9))
theorem tz_mb_may {kd v : Int} (h : tz_mb kd v = true) : ty_may kd v := by
  unfold tz_mb at h
  refine ⟨fun e => ?_, fun e => ?_, fun e => ?_, fun e => ?_, fun e => ?_, fun e => ?_⟩ <;> subst e <;> simp only [Int.reduceEq, ↓reduceIte, decide_eq_true_eq] at h <;> exact h
def tz_was (k : Int) : List (Int × List Int) → Bool
  | [] => false
  | (a, _) :: D => decide (a = k) || tz_was k D
/-- where a number, a name or a bracket is over -/
def tz_o1 (t : Nat) (o : Int) (F : List (Int × Int)) (W : List (Int × Nat)) (C : List Int) (D : List (Int × List Int)) (kd : Int) : tz_RS :=
  (t, (tz_ov 7 10020 F o C).2.1, (tz_ov 7 10020 F o C).1, W, 2, (tz_ov 7 10020 F o C).2.2, D, kd)
def tz_wf (k : Int) (t : Nat) (o : Int) (F : List (Int × Int)) (W : List (Int × Nat)) (st : Int) (C : List Int) (D : List (Int × List Int)) (kd : Int) : tz_RS :=
  (t, o, F, (k, F.length) :: (tz_wk F.length (tz_rk k) W C).1, st, (tz_wk F.length (tz_rk k) W C).2, D, kd)
def tz_co (t : Nat) (o : Int) (F : List (Int × Int)) (W : List (Int × Nat)) (C : List Int) (D : List (Int × List Int)) (kd : Int) : tz_RS :=
  (t, o, [], (tz_wk F.length 1 W C).1, 4, [], (kd, (tz_wk F.length 1 W C).2) :: D, kd)
def tz_s0 (K : Nat → Int) (t : Nat) (o : Int) (F : List (Int × Int)) (W : List (Int × Nat)) (C : List Int) (D : List (Int × List Int)) (kd : Int) : Int ⊕ tz_RS :=
  if K t = 32 then (if o = 8 then .inl 3 else .inr (t + 1, o + 1, (3, 0) :: F, W, 0, C, D, kd)) else .inr (t, o, (4, 0) :: F, W, 1, C, D, kd)
def tz_s1 (K U : Nat → Int) (t : Nat) (o : Int) (F : List (Int × Int)) (W : List (Int × Nat)) (C : List Int) (D : List (Int × List Int)) (kd : Int) : Int ⊕ tz_RS :=
  if K t = 2 then (if 9999 < U t then .inl 2 else .inr (tz_o1 (t + 1) o F W (U t :: C) D kd))
  else if 33 ≤ K t then (if tz_mb kd (K t - 33) = true then .inr (tz_o1 (t + 1) o F W ((10000 + K t) :: C) D kd) else .inl 5)
  else if K t = 3 then (if o = 8 then .inl 3 else .inr (t + 1, o + 1, (6, 0) :: F, W, 1, C, D, kd))
  else if K t = 11 then (if o = 8 then .inl 3 else .inr (t + 1, o + 1, (7, 0) :: F, W, 1, C, D, kd))
  else .inl 1
def tz_s2 (K : Nat → Int) (t : Nat) (o : Int) (F : List (Int × Int)) (W : List (Int × Nat)) (C : List Int) (D : List (Int × List Int)) (kd : Int) : Int ⊕ tz_RS :=
  if 10 ≤ K t ∧ K t ≤ 13 then .inr (tz_wf (K t) (t + 1) o F W 1 C D kd)
  else if (F.headD (0, 0)).1 = 6 ∧ K t = 4 then .inr (tz_o1 (t + 1) (o - 1) F.tail (tz_wk F.length 3 W C).1 (tz_wk F.length 3 W C).2 D kd)
  else if (F.headD (0, 0)).1 = 4 ∧ 14 ≤ K t ∧ K t ≤ 19 then .inr (t + 1, o, (5, K t) :: F.tail, (tz_wk F.length 3 W C).1, 1, (tz_wk F.length 3 W C).2, D, kd)
  else if (F.headD (0, 0)).1 = 5 then .inr (t, (tz_ov 3 10032 F.tail o ((10000 + (F.headD (0, 0)).2) :: (tz_wk F.length 3 W C).2)).2.1, (tz_ov 3 10032 F.tail o ((10000 + (F.headD (0, 0)).2) :: (tz_wk F.length 3 W C).2)).1, (tz_wk F.length 3 W C).1, 3, (tz_ov 3 10032 F.tail o ((10000 + (F.headD (0, 0)).2) :: (tz_wk F.length 3 W C).2)).2.2, D, kd)
  else if (F.headD (0, 0)).1 = 1 ∧ K t = 5 then .inr (tz_co (t + 1) o F W C D kd)
  else .inl 1
def tz_s3 (K : Nat → Int) (t : Nat) (o : Int) (F : List (Int × Int)) (W : List (Int × Nat)) (C : List Int) (D : List (Int × List Int)) (kd : Int) : Int ⊕ tz_RS :=
  if K t = 30 ∨ K t = 31 then .inr (tz_wf (K t) (t + 1) o F W 0 C D kd)
  else if (F.headD (0, 0)).1 = 2 ∧ K t = 5 then .inr (tz_co (t + 1) o F W C D kd)
  else .inl 1
def tz_s4 (K : Nat → Int) (t : Nat) (o : Int) (F : List (Int × Int)) (W : List (Int × Nat)) (D : List (Int × List Int)) : Int ⊕ tz_RS :=
  if ¬ (24 ≤ K t ∧ K t ≤ 29) then .inl 1
  else if K t ≤ 27 ∧ tz_was (K t - 24) D = true then .inl 4
  else if D.length = 10 then .inl 6
  else .inr (t + 1, o, (if K t ≤ 27 then 1 else 2, 0) :: F, W, if K t ≤ 27 then 1 else 0, [], D, K t - 24)
/-- one step -/
def tz_stp (K U : Nat → Int) : tz_RS → Int ⊕ tz_RS
  | (t, o, F, W, st, C, D, kd) => if st = 0 then tz_s0 K t o F W C D kd else if st = 1 then tz_s1 K U t o F W C D kd else if st = 2 then tz_s2 K t o F W C D kd else if st = 3 then tz_s3 K t o F W C D kd else tz_s4 K t o F W D
/-- all codes: of this clause, of those done, each with an end -/
def tz_fl : List (Int × List Int) → List Int
  | [] => []
  | (_, C) :: D => -1 :: C ++ tz_fl D
/-- a clause is open -/
def tz_bt : List (Int × Int) → Prop
  | [] => False
  | (a, _) :: F => (a = 1 ∨ a = 2) ∨ tz_bt F
/-- nothing outgrows its row -/
def tz_bd (m : Nat) : tz_RS → Prop
  | (t, o, F, W, st, C, D, _) => (t ≤ m ∧ -100 ≤ o ∧ o ≤ 8 ∧ F.length ≤ 30 ∧ W.length ≤ 60) ∧ (C ++ tz_fl D).length + W.length + F.length ≤ 380 ∧ D.length ≤ 10 ∧ ((st = 0 ∨ st = 1 ∨ st = 2 ∨ st = 3) ∧ tz_bt F ∧ D.length < 10 ∨ (st = 4 ∧ C = []))
/-- a run -/
def tz_chn (K U : Nat → Int) (m : Nat) : Nat → tz_RS → (Int × Nat) ⊕ tz_RS → Prop
  | 0, A, R => R = .inr A
  | n + 1, A, R => tz_bd m A ∧ ¬ (A.2.2.2.2.1 = 4 ∧ K A.1 = 0) ∧ ((∃ e, tz_stp K U A = .inl e ∧ R = .inl (e, A.1)) ∨ ∃ A', tz_stp K U A = .inr A' ∧ tz_chn K U m n A' R)
def tz_to (K U : Nat → Int) (m : Nat) (A : tz_RS) (R : (Int × Nat) ⊕ tz_RS) : Prop := ∃ n, tz_chn K U m n A R
theorem tz_to_rf {K U : Nat → Int} {m : Nat} {A : tz_RS} : tz_to K U m A (.inr A) := ⟨0, rfl⟩
theorem tz_to_s {K U : Nat → Int} {m : Nat} {A A' : tz_RS} {R : (Int × Nat) ⊕ tz_RS} (hb : tz_bd m A) (h4 : ¬ (A.2.2.2.2.1 = 4 ∧ K A.1 = 0)) (h : tz_stp K U A = .inr A') (h2 : tz_to K U m A' R) : tz_to K U m A R := by
  obtain ⟨n, hn⟩ := h2
  exact ⟨n + 1, hb, h4, Or.inr ⟨A', h, hn⟩⟩
theorem tz_to_e {K U : Nat → Int} {m : Nat} {A : tz_RS} {e : Int} (hb : tz_bd m A) (h4 : ¬ (A.2.2.2.2.1 = 4 ∧ K A.1 = 0)) (h : tz_stp K U A = .inl e) : tz_to K U m A (.inl (e, A.1)) := ⟨1, hb, h4, Or.inl ⟨e, h, rfl⟩⟩
theorem tz_chn_tr {K U : Nat → Int} {m : Nat} {A' : tz_RS} {R : (Int × Nat) ⊕ tz_RS} (h2 : tz_to K U m A' R) : ∀ (n : Nat) (A : tz_RS), tz_chn K U m n A (.inr A') → tz_to K U m A R
  | 0, A, h => by
    have e : A' = A := Sum.inr.inj h
    rw [← e]
    exact h2
  | n + 1, A, h => by
    obtain ⟨h1, h4, h⟩ := h
    rcases h with ⟨e, -, h3⟩ | ⟨B, h3, h5⟩
    · cases h3
    · exact tz_to_s h1 h4 h3 (tz_chn_tr h2 n B h5)
theorem tz_to_tr {K U : Nat → Int} {m : Nat} {A A' : tz_RS} {R : (Int × Nat) ⊕ tz_RS} (h : tz_to K U m A (.inr A')) (h2 : tz_to K U m A' R) : tz_to K U m A R := by
  obtain ⟨n, hn⟩ := h
  exact tz_chn_tr h2 n A hn
/-! What rows hold, the latest last. -/
/-- one code, or the end, in the reference's numbers -/
def tz_te (c op v : Int) : Prop := (c = -1 ∧ op = 408) ∨ (0 ≤ c ∧ ty_tok c op v)
def tz_hC (f g : Int → Int) : List Int → Prop
  | [] => True
  | c :: cs => tz_te c (f cs.length) (g cs.length) ∧ tz_hC f g cs
theorem tz_hC_c {f g f' g' : Int → Int} : ∀ {cs : List Int}, (∀ x : Int, 0 ≤ x → x < cs.length → f' x = f x ∧ g' x = g x) → tz_hC f g cs → tz_hC f' g' cs
  | [], _, _ => trivial
  | c :: cs, h, hh => by
    have h1 := h cs.length (by omega) (by rw [List.length_cons]; omega)
    unfold tz_hC
    rw [h1.1, h1.2]
    exact ⟨hh.1, tz_hC_c (fun x x0 x1 => h x x0 (by rw [List.length_cons]; omega)) hh.2⟩
def tz_hF (f g : Int → Int) : List (Int × Int) → Prop
  | [] => True
  | (a, b) :: F => (f F.length = a ∧ (a = 5 → 14 ≤ b ∧ b ≤ 19 ∧ ty_tok (10000 + b) (g (F.length + 1)) 0)) ∧ tz_hF f g F
theorem tz_hF_c {f g f' g' : Int → Int} : ∀ {F : List (Int × Int)}, (∀ x : Int, 0 ≤ x → x < F.length → f' x = f x ∧ g' (x + 1) = g (x + 1)) → tz_hF f g F → tz_hF f' g' F
  | [], _, _ => trivial
  | (a, b) :: F, h, hh => by
    have h1 := h F.length (by omega) (by rw [List.length_cons]; omega)
    unfold tz_hF
    rw [h1.1, h1.2]
    exact ⟨hh.1, tz_hF_c (fun x x0 x1 => h x x0 (by rw [List.length_cons]; omega)) hh.2⟩
def tz_wo (b : Int) : Prop := b = 30 ∨ b = 31 ∨ (10 ≤ b ∧ b ≤ 13)
def tz_hW (f g : Int → Int) : List (Int × Nat) → Prop
  | [] => True
  | (b, n) :: W => (tz_wo b ∧ ty_tok (10000 + b) (f W.length) 0 ∧ g W.length = (n : Int)) ∧ tz_hW f g W
theorem tz_hW_c {f g f' g' : Int → Int} : ∀ {W : List (Int × Nat)}, (∀ x : Int, 0 ≤ x → x < W.length → f' x = f x ∧ g' x = g x) → tz_hW f g W → tz_hW f' g' W
  | [], _, _ => trivial
  | (b, n) :: W, h, hh => by
    have h1 := h W.length (by omega) (by rw [List.length_cons]; omega)
    unfold tz_hW
    rw [h1.1, h1.2]
    exact ⟨hh.1, tz_hW_c (fun x x0 x1 => h x x0 (by rw [List.length_cons]; omega)) hh.2⟩
/-- heads of clauses -/
def tz_hD (f g : Int → Int) : List (Int × List Int) → Prop
  | [] => True
  | (a, _) :: D => (f D.length = a ∧ g D.length = ((tz_fl D).length : Int)) ∧ tz_hD f g D
theorem tz_hD_c {f g f' g' : Int → Int} : ∀ {D : List (Int × List Int)}, (∀ x : Int, 0 ≤ x → x < D.length → f' x = f x ∧ g' x = g x) → tz_hD f g D → tz_hD f' g' D
  | [], _, _ => trivial
  | (a, _) :: D, h, hh => by
    have h1 := h D.length (by omega) (by rw [List.length_cons]; omega)
    unfold tz_hD
    rw [h1.1, h1.2]
    exact ⟨hh.1, tz_hD_c (fun x x0 x1 => h x x0 (by rw [List.length_cons]; omega)) hh.2⟩
/-- a token in the reference's numbers -/
def tz_tkr (k u s v : Int) : Prop :=
  (k = 0 ∧ s = 0) ∨ (k = 1 ∧ (s = 4 ∨ (s = 3 ∧ v = 44))) ∨ (k = 2 ∧ s = 2 ∧ 0 ≤ u ∧ ((u ≤ 9999 ∧ v = u) ∨ (9999 < u ∧ 9999 < v))) ∨ (24 ≤ k ∧ k ≤ 47 ∧ s = 1 ∧ v = k - 24) ∨
  (s = 3 ∧ ((k = 3 ∧ v = 40) ∨ (k = 4 ∧ v = 41) ∨ (k = 5 ∧ v = 59) ∨ (k = 10 ∧ v = 43) ∨ (k = 11 ∧ v = 45) ∨ (k = 12 ∧ v = 42) ∨ (k = 13 ∧ v = 47) ∨ (k = 14 ∧ v = 60) ∨ (k = 15 ∧ v = 300) ∨ (k = 16 ∧ v = 62) ∨ (k = 17 ∧ v = 301) ∨ (k = 18 ∧ v = 61) ∨ (k = 19 ∧ v = 35)))
/-- only some cells, and of the reference's own some fields, change -/
def tz_q (Kc : List Nat) (Fs : List Int) (j j1 : MI) : Prop := (∀ k : Nat, ¬ k = 123 → ¬ k ∈ Kc → j1 k = j k) ∧ ∀ f : Int, ¬ f ∈ Fs → j1 123 f = j 123 f
theorem tz_q_rf {Kc : List Nat} {Fs : List Int} {j : MI} : tz_q Kc Fs j j := ⟨fun _ _ _ => rfl, fun _ _ => rfl⟩
theorem tz_inz {S S' : List Int} (h : S.all (fun k => S'.contains k) = true) {k : Int} (hk : k ∈ S) : k ∈ S' := List.contains_iff_mem.mp (List.all_eq_true.mp h k hk)
theorem tz_q_tr {Kc Kc' Kc'' : List Nat} {Fs Fs' Fs'' : List Int} {j j1 j2 : MI} (h : tz_q Kc Fs j j1) (h' : tz_q Kc' Fs' j1 j2) (a : Kc.all (fun k => Kc''.contains k) = true) (b : Kc'.all (fun k => Kc''.contains k) = true) (c : Fs.all (fun k => Fs''.contains k) = true) (e : Fs'.all (fun k => Fs''.contains k) = true) : tz_q Kc'' Fs'' j j2 :=
  ⟨fun k h1 h2 => (h'.1 k h1 (fun q => h2 (ty_in b q))).trans (h.1 k h1 (fun q => h2 (ty_in a q))), fun f hf => (h'.2 f (fun q => hf (tz_inz e q))).trans (h.2 f (fun q => hf (tz_inz c q)))⟩
theorem tz_q_w {Kc Kc' : List Nat} {Fs Fs' : List Int} {j j1 : MI} (h : tz_q Kc Fs j j1) (a : Kc.all (fun k => Kc'.contains k) = true) (c : Fs.all (fun k => Fs'.contains k) = true) : tz_q Kc' Fs' j j1 :=
  ⟨fun k h1 h2 => h.1 k h1 (fun q => h2 (ty_in a q)), fun f hf => h.2 f (fun q => hf (tz_inz c q))⟩
theorem tz_q_f {Kc : List Nat} {Fs : List Int} {j : MI} {f v : Int} (h : f ∈ Fs) : tz_q Kc Fs j (px_up j 123 f v) := ⟨fun _ h1 _ => ty_up_row h1, fun f' hf => ty_up_j (fun e => hf (e ▸ h))⟩
theorem tz_q_k {Kc : List Nat} {Fs : List Int} {j : MI} {k : Nat} {x v : Int} (h : k ∈ Kc) (h2 : ¬ k = 123) : tz_q Kc Fs j (px_up j k x v) := ⟨fun _ _ h3 => ty_up_row (fun e => h3 (e ▸ h)), fun _ _ => ty_up_k (fun e => h2 e.symm)⟩
/-! The state in memory, part by part. -/
def tz_pT (K U PL BH : Nat → Int) (T : Int → Int) (N : Int) (m t : Nat) (j : MI) : Prop := t ≤ m ∧ j 123 14 = N ∧ (∀ x : Int, 0 ≤ x → x < N → j 126 x = px_i2b (T x)) ∧ j 123 15 = BH t ∧ j 123 16 = PL t ∧ tz_tkr (K t) (U t) (j 123 17) (j 123 18)
def tz_pF (F : List (Int × Int)) (j : MI) : Prop := j 123 22 = (F.length : Int) ∧ tz_hF (j 132) (j 133) F
def tz_pW (W : List (Int × Nat)) (j : MI) : Prop := j 123 25 = (W.length : Int) ∧ tz_hW (j 134) (j 135) W
def tz_pC (X : List Int) (j : MI) : Prop := j 123 33 = (X.length : Int) ∧ tz_hC (j 138) (j 139) X
def tz_pD (D : List (Int × List Int)) (st kd : Int) (j : MI) : Prop := j 123 29 = (D.length : Int) ∧ tz_hD (j 136) (j 137) D ∧ (¬ st = 4 → j 123 30 = kd ∧ j 136 (D.length : Int) = kd ∧ j 137 (D.length : Int) = ((tz_fl D).length : Int))
section TYPQ
variable {Kc : List Nat} {Fs : List Int} {j j1 : MI}
theorem tz_pT_q {K U PL BH : Nat → Int} {T : Int → Int} {N : Int} {m t : Nat} (h : tz_q Kc Fs j j1) (a : Kc.all (fun k => decide (k ≠ 126)) = true) (b : Fs.all (fun f => decide (¬ f = 14 ∧ ¬ f = 15 ∧ ¬ f = 16 ∧ ¬ f = 17 ∧ ¬ f = 18)) = true) (hp : tz_pT K U PL BH T N m t j) : tz_pT K U PL BH T N m t j1 := by
  have hb : ∀ f, f ∈ Fs → ¬ f = 14 ∧ ¬ f = 15 ∧ ¬ f = 16 ∧ ¬ f = 17 ∧ ¬ f = 18 := fun f hf => of_decide_eq_true (List.all_eq_true.mp b f hf)
  have h126 : j1 126 = j 126 := h.1 126 (by decide) (fun q => of_decide_eq_true (List.all_eq_true.mp a 126 q) rfl)
  unfold tz_pT
  rw [h126, h.2 14 (fun q => (hb _ q).1 rfl), h.2 15 (fun q => (hb _ q).2.1 rfl), h.2 16 (fun q => (hb _ q).2.2.1 rfl), h.2 17 (fun q => (hb _ q).2.2.2.1 rfl), h.2 18 (fun q => (hb _ q).2.2.2.2 rfl)]
  exact hp
theorem tz_pF_q {F : List (Int × Int)} (h : tz_q Kc Fs j j1) (a : Kc.all (fun k => decide (k ≠ 132 ∧ k ≠ 133)) = true) (b : Fs.all (fun f => decide (¬ f = 22)) = true) (hp : tz_pF F j) : tz_pF F j1 := by
  have ha : ∀ k, k ∈ Kc → k ≠ 132 ∧ k ≠ 133 := fun k hk => of_decide_eq_true (List.all_eq_true.mp a k hk)
  unfold tz_pF
  rw [h.1 132 (by decide) (fun q => (ha _ q).1 rfl), h.1 133 (by decide) (fun q => (ha _ q).2 rfl), h.2 22 (fun q => of_decide_eq_true (List.all_eq_true.mp b 22 q) rfl)]
  exact hp
theorem tz_pW_q {W : List (Int × Nat)} (h : tz_q Kc Fs j j1) (a : Kc.all (fun k => decide (k ≠ 134 ∧ k ≠ 135)) = true) (b : Fs.all (fun f => decide (¬ f = 25)) = true) (hp : tz_pW W j) : tz_pW W j1 := by
  have ha : ∀ k, k ∈ Kc → k ≠ 134 ∧ k ≠ 135 := fun k hk => of_decide_eq_true (List.all_eq_true.mp a k hk)
  unfold tz_pW
  rw [h.1 134 (by decide) (fun q => (ha _ q).1 rfl), h.1 135 (by decide) (fun q => (ha _ q).2 rfl), h.2 25 (fun q => of_decide_eq_true (List.all_eq_true.mp b 25 q) rfl)]
  exact hp
theorem tz_pC_q {X : List Int} (h : tz_q Kc Fs j j1) (a : Kc.all (fun k => decide (k ≠ 138 ∧ k ≠ 139)) = true) (b : Fs.all (fun f => decide (¬ f = 33)) = true) (hp : tz_pC X j) : tz_pC X j1 := by
  have ha : ∀ k, k ∈ Kc → k ≠ 138 ∧ k ≠ 139 := fun k hk => of_decide_eq_true (List.all_eq_true.mp a k hk)
  unfold tz_pC
  rw [h.1 138 (by decide) (fun q => (ha _ q).1 rfl), h.1 139 (by decide) (fun q => (ha _ q).2 rfl), h.2 33 (fun q => of_decide_eq_true (List.all_eq_true.mp b 33 q) rfl)]
  exact hp
theorem tz_pD_q {D : List (Int × List Int)} {st kd : Int} (h : tz_q Kc Fs j j1) (a : Kc.all (fun k => decide (k ≠ 136 ∧ k ≠ 137)) = true) (b : Fs.all (fun f => decide (¬ f = 29 ∧ ¬ f = 30)) = true) (hp : tz_pD D st kd j) : tz_pD D st kd j1 := by
  have ha : ∀ k, k ∈ Kc → k ≠ 136 ∧ k ≠ 137 := fun k hk => of_decide_eq_true (List.all_eq_true.mp a k hk)
  have hb : ∀ f, f ∈ Fs → ¬ f = 29 ∧ ¬ f = 30 := fun f hf => of_decide_eq_true (List.all_eq_true.mp b f hf)
  unfold tz_pD
  rw [h.1 136 (by decide) (fun q => (ha _ q).1 rfl), h.1 137 (by decide) (fun q => (ha _ q).2 rfl), h.2 29 (fun q => (hb _ q).1 rfl), h.2 30 (fun q => (hb _ q).2 rfl)]
  exact hp
theorem tz_pf_q {f v : Int} (h : tz_q Kc Fs j j1) (b : Fs.all (fun g => decide (¬ g = f)) = true) (hp : j 123 f = v) : j1 123 f = v := by
  rw [h.2 f (fun q => of_decide_eq_true (List.all_eq_true.mp b f q) rfl)]
  exact hp
end TYPQ
