/-! The texts: what a clause's signs are in both memories, what they come to; levels kept; stamps. -/
/-- one sign: the class's number against the reference's two -/
def ty_tok (c op v : Int) : Prop :=
  (0 ≤ c ∧ c ≤ 9999 ∧ op = 400 ∧ v = c) ∨ (op = 401 ∧ c = 10033 + v ∧ 0 ≤ v ∧ v < 15) ∨ (c = 10020 ∧ op = 402) ∨ (c = 10032 ∧ op = 405) ∨ (c = 10031 ∧ op = 406) ∨ (c = 10030 ∧ op = 407) ∨
  (c = 10010 ∧ op = 43) ∨ (c = 10011 ∧ op = 45) ∨ (c = 10012 ∧ op = 42) ∨ (c = 10013 ∧ op = 47) ∨ (c = 10014 ∧ op = 60) ∨ (c = 10015 ∧ op = 300) ∨ (c = 10016 ∧ op = 62) ∨ (c = 10017 ∧ op = 301) ∨ (c = 10018 ∧ op = 61) ∨ (c = 10019 ∧ op = 35)
/-- the names that a clause of a kind may use -/
def ty_may (kind v : Int) : Prop :=
  (kind = 0 → v < 3) ∧ (kind = 1 → v = 0 ∨ (3 ≤ v ∧ v ≤ 9)) ∧ (kind = 2 → v = 3 ∨ v = 6 ∨ (11 ≤ v ∧ v ≤ 13)) ∧ (kind = 3 → v = 14) ∧ (kind = 4 → v = 0 ∨ (3 ≤ v ∧ v ≤ 9)) ∧ (kind = 5 → v = 0 ∨ v = 3 ∨ v = 5 ∨ v = 10)
/-- do the signs fit: the kinds of what waits, numbers (false) and yes or no (true) -/
def ty_step (c : Int) (st : List Bool) : Option (List Bool) :=
  if c < 10000 ∨ 10033 ≤ c then (if st.length < 32 then some (false :: st) else none)
  else if c = 10020 then (match st with
    | false :: r => some (false :: r)
    | _ => none)
  else if c = 10032 then (match st with
    | true :: r => some (true :: r)
    | _ => none)
  else if c = 10030 ∨ c = 10031 then (match st with
    | true :: true :: r => some (true :: r)
    | _ => none)
  else if c < 10014 then (match st with
    | false :: false :: r => some (false :: r)
    | _ => none)
  else (match st with
    | false :: false :: r => some (true :: r)
    | _ => none)
def ty_chk (cs : List Int) (st : List Bool) : Option (List Bool) := match cs with
  | [] => some st
  | c :: cs => (match ty_step c st with
    | some st' => ty_chk cs st'
    | none => none)
/-- held between minus a million and a million -/
def ty_mil (x : Int) : Int := if 1000000 < x then 1000000 else if x < -1000000 then -1000000 else x
/-- what two make, the first below the second -/
def ty_join (c a b : Int) : Int :=
  if c = 10010 then ty_mil (a + b) else if c = 10011 then ty_mil (a - b) else if c = 10012 then ty_mil (a * b) else if c = 10013 then (if b = 0 then 0 else Int.tdiv a b)
  else if c = 10014 then (if a < b then 1 else 0) else if c = 10015 then (if a ≤ b then 1 else 0) else if c = 10016 then (if b < a then 1 else 0) else if c = 10017 then (if b ≤ a then 1 else 0)
  else if c = 10018 then (if a = b then 1 else 0) else if c = 10019 then (if a = b then 0 else 1) else if c = 10030 then (if a = 1 ∨ b = 1 then 1 else 0) else (if a = 1 ∧ b = 1 then 1 else 0)
def ty_act (env : Int → Int) (c : Int) (st : List Int) : List Int :=
  if c < 10000 then c :: st
  else if 10033 ≤ c then env (c - 10033) :: st
  else if c = 10020 then (match st with
    | x :: r => (-x) :: r
    | [] => [])
  else if c = 10032 then (match st with
    | x :: r => (1 - x) :: r
    | [] => [])
  else (match st with
    | b :: a :: r => ty_join c a b :: r
    | _ => [])
/-- what signs come to -/
def ty_ev (env : Int → Int) (cs : List Int) (st : List Int) : List Int := match cs with
  | [] => st
  | c :: cs => ty_ev env cs (ty_act env c st)
/-- the signs of a clause of a text (cell T) of the class -/
def ty_codes (i : MI) (T : Nat) (k : Int) : List Int := (List.range (i (T + 4) k - i (T + 3) k).toNat).map (fun (j : Nat) => i (T + 1) (i (T + 3) k + (j : Int)))
def ty_val (i : MI) (T : Nat) (k : Int) (env : Int → Int) : Int := (ty_ev env (ty_codes i T k) []).headD 0
/-- a clause in both memories: the k-th of text q -/
def ty_cl (i : MI) (q : Nat) (k : Int) : Prop :=
  (0 ≤ i (75 + 5 * q) k ∧ i (75 + 5 * q) k ≤ 5 ∧ i 128 (10 * q + k) = i (75 + 5 * q) k) ∧
  (0 ≤ i (76 + 5 * q) k ∧ i (76 + 5 * q) k ≤ i (77 + 5 * q) k ∧ i (77 + 5 * q) k ≤ 300) ∧
  (400 * q ≤ i 129 (10 * q + k) ∧ i 129 (10 * q + k) + (i (77 + 5 * q) k - i (76 + 5 * q) k) < 400 * q + 400) ∧
  (∀ j : Int, 0 ≤ j → j < i (77 + 5 * q) k - i (76 + 5 * q) k → ty_tok (i (74 + 5 * q) (i (76 + 5 * q) k + j)) (i 130 (i 129 (10 * q + k) + j)) (i 131 (i 129 (10 * q + k) + j)) ∧
    (10033 ≤ i (74 + 5 * q) (i (76 + 5 * q) k + j) → ty_may (i (75 + 5 * q) k) (i (74 + 5 * q) (i (76 + 5 * q) k + j) - 10033))) ∧
  i 130 (i 129 (10 * q + k) + (i (77 + 5 * q) k - i (76 + 5 * q) k)) = 408 ∧
  ty_chk (ty_codes i (73 + 5 * q) k) [] = some [decide (4 ≤ i (75 + 5 * q) k)]
/-- a text in both memories -/
def ty_tx (i : MI) (q : Nat) : Prop :=
  (i (73 + 5 * q) 1 = i 127 q ∧ 0 ≤ i 127 q ∧ i 127 q ≤ 10) ∧ (∀ k : Int, 0 ≤ k → k < i 127 q → ty_cl i q k) ∧
  ∀ k k' : Int, 0 ≤ k → k < i 127 q → 0 ≤ k' → k' < i 127 q → i (75 + 5 * q) k = i (75 + 5 * q) k' → i (75 + 5 * q) k < 4 → k = k'
/-- the first clause of a kind from a place on -/
def ty_find (i : MI) (T : Nat) (kind : Int) (n : Nat) (k : Int) : Int := match n with
  | 0 => -1
  | n + 1 => if i (T + 2) k = kind then k else ty_find i T kind n (k + 1)
/-- what THE TEXT says by a clause of a kind; without one: w -/
def ty_says (i : MI) (kind most w : Int) (env : Int → Int) : Int :=
  if i 4 8 = -1 then w
  else if ty_find i (73 + 5 * (i 4 8).toNat) kind (i (73 + 5 * (i 4 8).toNat) 1).toNat 0 = -1 then w
  else max 0 (min most (ty_val i (73 + 5 * (i 4 8).toNat) (ty_find i (73 + 5 * (i 4 8).toNat) kind (i (73 + 5 * (i 4 8).toNat) 1).toNat 0) env))
/-- the level at a minute -/
def ty_lev (i : MI) (m : Int) : Int := ty_says i 0 999 (90 - Int.tdiv (if 0 ≤ Int.tmod m 720 - 360 then Int.tmod m 720 - 360 else 360 - Int.tmod m 720) 4) (fun x => if x = 0 then m else if x = 1 then i 4 3 else i 4 4)
/-- texts, levels kept, stamps; n: how many calls there were -/
def ty_Y (n : Nat) (i : MI) : Prop :=
  (∀ q : Nat, (q : Int) < i 124 5 → ty_tx i q) ∧ i 125 5 ≤ i 124 5 ∧ (∀ m : Int, 0 ≤ m → m < 1440 → i 70 m = -1 ∨ i 70 m = ty_lev i m) ∧
  (0 ≤ i 103 7 ∧ i 103 7 ≤ 1500 * (n : Int)) ∧ ∀ x : Int, 0 ≤ x → x < 320 → i 108 x ≤ i 103 7
/-- the coupling -/
def ty_CR (n : Nat) (i l : MI) : Prop := ty_D i l ∧ ty_H 0 i l (i 124) ∧ ty_H 27 i l (i 125) ∧ ty_T i ∧ ty_Y n i
theorem ty_codes_c {i i' : MI} {T : Nat} {k : Int} (h1 : i' (T + 1) = i (T + 1)) (h3 : i' (T + 3) = i (T + 3)) (h4 : i' (T + 4) = i (T + 4)) : ty_codes i' T k = ty_codes i T k := by
  unfold ty_codes
  rw [h1, h3, h4]
theorem ty_tx_c {i i' : MI} {q : Nat} (h0 : ∀ k, 73 + 5 * q ≤ k → k < 78 + 5 * q → i' k = i k) (h1 : i' 127 = i 127) (h2 : i' 128 = i 128) (h3 : i' 129 = i 129) (h4 : i' 130 = i 130) (h5 : i' 131 = i 131) (h : ty_tx i q) : ty_tx i' q := by
  have e0 := h0 (73 + 5 * q) (by omega) (by omega)
  have e1 := h0 (74 + 5 * q) (by omega) (by omega)
  have e2 := h0 (75 + 5 * q) (by omega) (by omega)
  have e3 := h0 (76 + 5 * q) (by omega) (by omega)
  have e4 := h0 (77 + 5 * q) (by omega) (by omega)
  unfold ty_tx ty_cl at h ⊢
  have ec : ∀ k, ty_codes i' (73 + 5 * q) k = ty_codes i (73 + 5 * q) k := fun k => ty_codes_c (h0 _ (by omega) (by omega)) (h0 _ (by omega) (by omega)) (h0 _ (by omega) (by omega))
  simp only [e0, e1, e2, e3, e4, h1, h2, h3, h4, h5, ec]
  exact h
theorem ty_find_c {i i' : MI} {T : Nat} {kind : Int} (h : i' (T + 2) = i (T + 2)) : ∀ (n : Nat) (k : Int), ty_find i' T kind n k = ty_find i T kind n k
  | 0, _ => rfl
  | n + 1, k => by
    unfold ty_find
    rw [h, ty_find_c h n (k + 1)]
theorem ty_says_c {i i' : MI} {kind most w : Int} {env : Int → Int} (h8 : i' 4 8 = i 4 8) (h0 : ∀ k, 73 + 5 * (i 4 8).toNat ≤ k → k < 78 + 5 * (i 4 8).toNat → i' k = i k) : ty_says i' kind most w env = ty_says i kind most w env := by
  unfold ty_says ty_val
  rw [h8, h0 (73 + 5 * (i 4 8).toNat) (by omega) (by omega), ty_find_c (h0 (73 + 5 * (i 4 8).toNat + 2) (by omega) (by omega)), ty_codes_c (h0 _ (by omega) (by omega)) (h0 _ (by omega) (by omega)) (h0 _ (by omega) (by omega))]
theorem ty_lev_c {i i' : MI} {m : Int} (h3 : i' 4 3 = i 4 3) (h4 : i' 4 4 = i 4 4) (h8 : i' 4 8 = i 4 8) (h0 : ∀ k, 73 + 5 * (i 4 8).toNat ≤ k → k < 78 + 5 * (i 4 8).toNat → i' k = i k) : ty_lev i' m = ty_lev i m := by
  unfold ty_lev
  rw [ty_says_c h8 h0, h3, h4]
