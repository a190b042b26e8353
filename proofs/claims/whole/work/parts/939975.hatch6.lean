/-! The hatch: sets counted, the best set (113, 224). -/
def th_ct (X : Int) : Nat → Int → Int
  | 0, _ => 0
  | n + 1, g => (if ty_bit X g = true then 1 else 0) + th_ct X n (g + 1)
def th_b_a (x : Int) : Int := px_w32 (x - px_and (px_ushr x 1) 1431655765)
def th_b_b (x : Int) : Int := px_w32 (px_and (th_b_a x) 858993459 + px_and (px_ushr (th_b_a x) 2) 858993459)
def th_b_c (x : Int) : Int := px_and (px_w32 (th_b_b x + px_ushr (th_b_b x) 4)) 252645135
def th_b_e (x : Int) : Int := px_w32 (th_b_c x + px_ushr (th_b_c x) 8)
def th_bc (x : Int) : Int := px_and (px_w32 (th_b_e x + px_ushr (th_b_e x) 16)) 63
theorem th_bc_f : ∀ a b : Fin 32, th_bc ((32 * a.val + b.val : Nat) : Int) = th_ct ((32 * a.val + b.val : Nat) : Int) 10 0 := by decide +kernel
theorem th_bc_ct {X : Int} (hX : 0 ≤ X ∧ X < 1024) : th_bc X = th_ct X 10 0 := by
  obtain ⟨n, rfl⟩ : ∃ n : Nat, X = (n : Int) := ⟨X.toNat, by omega⟩
  have h := th_bc_f ⟨n / 32, by omega⟩ ⟨n % 32, by omega⟩
  have e : 32 * (n / 32) + n % 32 = n := by omega
  rw [show 32 * (⟨n / 32, by omega⟩ : Fin 32).val + (⟨n % 32, by omega⟩ : Fin 32).val = n from e] at h
  exact h
theorem th_ct_0 {X : Int} : ∀ (n : Nat) (g : Int), (∀ j, g ≤ j → j < g + n → ty_bit X j = false) → th_ct X n g = 0
  | 0, _, _ => rfl
  | n + 1, g, h => by
    unfold th_ct
    rw [h g (by omega) (by omega), if_neg (by decide), th_ct_0 n (g + 1) (fun j j0 j1 => h j (by omega) (by omega))]
    rfl
theorem th_ct_a {X : Int} (b : Nat) : ∀ (a : Nat) (g : Int), th_ct X (a + b) g = th_ct X a g + th_ct X b (g + a)
  | 0, g => by
    rw [Nat.zero_add, show g + ((0 : Nat) : Int) = g by omega]
    show _ = 0 + _
    omega
  | a + 1, g => by
    rw [show a + 1 + b = a + b + 1 by omega]
    show (if ty_bit X g = true then 1 else 0) + th_ct X (a + b) (g + 1) = (if ty_bit X g = true then 1 else 0) + th_ct X a (g + 1) + _
    rw [th_ct_a b a (g + 1), show g + 1 + (a : Int) = g + ((a + 1 : Nat) : Int) by omega]
    omega
theorem th_ct_G {X G : Int} (hG : 0 ≤ G ∧ G ≤ 10) (h : ∀ j, G ≤ j → j < 10 → ty_bit X j = false) : th_ct X 10 0 = th_ct X G.toNat 0 := by
  have e := th_ct_a (X := X) (10 - G.toNat) G.toNat 0
  rw [show G.toNat + (10 - G.toNat) = 10 by omega, th_ct_0 (10 - G.toNat) (0 + (G.toNat : Int)) (fun j j0 j1 => h j (by omega) (by omega))] at e
  omega
theorem th_ct_b {X : Int} : ∀ (n : Nat) (g : Int), 0 ≤ th_ct X n g ∧ th_ct X n g ≤ n
  | 0, g => ⟨Int.le_refl 0, Int.le_refl 0⟩
  | n + 1, g => by
    have := th_ct_b (X := X) n (g + 1)
    unfold th_ct
    split <;> omega
theorem th_not {S : Int} (hS : 0 ≤ S ∧ S < 1024) : px_xor S (-1) = -S - 1 := by
  have h : ∀ a b : Fin 32, px_xor ((32 * a.val + b.val : Nat) : Int) (-1) = -((32 * a.val + b.val : Nat) : Int) - 1 := by decide +kernel
  obtain ⟨n, rfl⟩ : ∃ n : Nat, S = (n : Int) := ⟨S.toNat, by omega⟩
  have h := h ⟨n / 32, by omega⟩ ⟨n % 32, by omega⟩
  have e : 32 * (n / 32) + n % 32 = n := by omega
  rw [show 32 * (⟨n / 32, by omega⟩ : Fin 32).val + (⟨n % 32, by omega⟩ : Fin 32).val = n from e] at h
  exact h
theorem th_rm_e2 {n p : Nat} (hn : n < 1024) (hp : p < 1024) : px_and (n : Int) (-(p : Int) - 1) = ((n &&& (4294967296 - (p + 1)) : Nat) : Int) := by
  unfold px_and
  show BitVec.toInt (BitVec.ofInt 32 (n : Int) &&& BitVec.ofInt 32 (-(p : Int) - 1)) = _
  have h : n &&& (4294967296 - (p + 1)) ≤ n := Nat.and_le_left
  refine ty_bv32_i ?_ (by omega)
  rw [BitVec.toNat_and, ty_bv32 (by omega), BitVec.toNat_ofInt]
  congr 1
  omega
/-- part of a set -/
theorem th_sub {X S : Int} (hX : 0 ≤ X ∧ X < 1024) (hS : 0 ≤ S ∧ S < 1024) (h : px_and X (px_xor S (-1)) = 0) : ∀ j, 0 ≤ j → j < 31 → ty_bit X j = true → ty_bit S j = true := by
  intro j j0 j1 hj
  rw [th_not hS] at h
  obtain ⟨n, rfl⟩ : ∃ n : Nat, X = (n : Int) := ⟨X.toNat, by omega⟩
  obtain ⟨p, rfl⟩ : ∃ p : Nat, S = (p : Int) := ⟨S.toNat, by omega⟩
  rw [th_rm_e2 (by omega) (by omega)] at h
  have h0 : n &&& (4294967296 - (p + 1)) = 0 := by omega
  have hb : (n &&& (4294967296 - (p + 1))).testBit j.toNat = false := by rw [h0]; exact Nat.zero_testBit _
  rw [Nat.testBit_and, show 4294967296 - (p + 1) = 2 ^ 32 - (p + 1) from rfl, Nat.testBit_two_pow_sub_succ (by omega), decide_eq_true (show j.toNat < 32 by omega), Bool.true_and] at hb
  unfold ty_bit at hj ⊢
  rw [Int.toNat_natCast] at hj ⊢
  rw [hj, Bool.true_and] at hb
  cases hc : p.testBit j.toNat with
  | true => rfl
  | false =>
    rw [hc] at hb
    exact absurd hb (by decide)
theorem th_hi {X G : Int} (hG : 0 ≤ G ∧ G ≤ 10) (hX : 0 ≤ X) (h : X < 2 ^ G.toNat) : ∀ j, G ≤ j → ty_bit X j = false := by
  intro j j0
  unfold ty_bit
  apply Nat.testBit_lt_two_pow
  have h1 : (2 : Nat) ^ G.toNat ≤ 2 ^ j.toNat := Nat.pow_le_pow_right (by omega) (by omega)
  have h2 : (X.toNat : Int) < ((2 ^ G.toNat : Nat) : Int) := by
    rw [Int.toNat_of_nonneg hX]
    exact_mod_cast h
  omega
/-- the best set -/
def th_lp (ok : Int → Bool) (w : Int → Int) (S : Int) : Nat → Int → Int → Int → Int × Int
  | 0, _, b, mo => (b, mo)
  | n + 1, x, b, mo => if px_and x (px_xor S (-1)) = 0 ∧ mo < w x ∧ ok x = true then th_lp ok w S n (x + 1) x (w x) else th_lp ok w S n (x + 1) b mo
theorem th_lp_b {ok : Int → Bool} {w : Int → Int} {S : Int} : ∀ (n : Nat) (x b mo : Int), 0 ≤ x → (0 ≤ b ∧ b < x ∧ mo = w b) → x + n = S + 1 → (0 ≤ (th_lp ok w S n x b mo).1 ∧ (th_lp ok w S n x b mo).1 < S + 1) ∧ (th_lp ok w S n x b mo).2 = w (th_lp ok w S n x b mo).1
  | 0, x, b, mo, h0, hb, hs => ⟨⟨hb.1, by have := hb.2.1; show b < S + 1; omega⟩, hb.2.2⟩
  | n + 1, x, b, mo, h0, hb, hs => by
    unfold th_lp
    by_cases c : px_and x (px_xor S (-1)) = 0 ∧ mo < w x ∧ ok x = true
    · rw [if_pos c]
      exact th_lp_b n (x + 1) x (w x) (by omega) ⟨h0, by omega, rfl⟩ (by omega)
    · rw [if_neg c]
      exact th_lp_b n (x + 1) b mo (by omega) ⟨hb.1, by omega, hb.2.2⟩ (by omega)
section THL
variable {L t : Nat} {r : MR}
theorem th_237 (hr : px_hr r) (d : Nat) (i l : MI) (X : Int) (hX : 0 ≤ X ∧ X < 1024) : px_C d 237 [vI X] (px_sh L, i, l, r, t) = some (some (vI (th_ct X 10 0)), (px_sh L, i, l, r, t)) := by
  rw [← th_bc_ct hX, e237, b237_0 hr]
  rfl
/-- the class's loop -/
theorem th_113_l (hr : px_hr r) (d : Nat) (i l : MI) (S m : Int) (w : Int → Int) (ok : Int → Bool) (hS : 0 ≤ S ∧ S < 1024) (hw : ∀ X, 0 ≤ X → X < 1024 → px_C (d + 1) 112 [vR 116, vI X] (px_sh L, i, l, r, t) = some (some (vI (w X)), (px_sh L, i, l, r, t))) (hok : ∀ X, 0 ≤ X → X < 1024 → px_C (d + 1) 116 [vR 116, vI X, vI m] (px_sh L, i, l, r, t) = some (some (vI (ty_b (ok X))), (px_sh L, i, l, r, t))) : ∀ (n : Nat) (x b mo : Int) (v6 : PV), px_nl v6 → 0 ≤ x → x + n = S + 1 →
    px_X (d + 1 + 1) 113 (27, [vR 116, vI m, vI S, vI b, vI mo, vI x, v6], []) (px_sh L, i, l, r, t) = some (some (vI (th_lp ok w S n x b mo).1), (px_sh L, i, l, r, t))
  | 0, x, b, mo, v6, hn6, hx, hn => by
    rw [b113_27 hr _ _ _ _ _ _ _ _ hn6, if_pos (by omega)]
    rfl
  | n + 1, x, b, mo, v6, hn6, hx, hn => by
    have wx : px_w32 (x + 1) = x + 1 := ty_w (by omega)
    rw [b113_27 hr _ _ _ _ _ _ _ _ hn6, if_neg (by omega), hw x hx (by omega), Option.bind_some, px_psh_some, b113_39 hr _ _ _ _ _ _ _ _ hn6, wx]
    unfold th_lp
    by_cases c1 : px_and x (px_xor S (-1)) = 0
    · rw [if_pos c1]
      by_cases c2 : w x ≤ mo
      · rw [if_pos c2, if_neg (show ¬ (px_and x (px_xor S (-1)) = 0 ∧ mo < w x ∧ ok x = true) from fun h => by omega), th_113_l hr d i l S m w ok hS hw hok n (x + 1) b mo _ (px_nl_I _) (by omega) (by omega)]
      · rw [if_neg c2, hok x hx (by omega), Option.bind_some, px_psh_some, b113_64 hr, wx]
        cases hk : ok x with
        | false => rw [if_pos (show ty_b false = 0 from rfl), if_neg (show ¬ (px_and x (px_xor S (-1)) = 0 ∧ mo < w x ∧ false = true) from fun h => absurd h.2.2 (by decide)), th_113_l hr d i l S m w ok hS hw hok n (x + 1) b mo _ (px_nl_I _) (by omega) (by omega)]
        | true => rw [if_neg (show ¬ ty_b true = 0 by decide), if_pos (show px_and x (px_xor S (-1)) = 0 ∧ mo < w x ∧ true = true from ⟨c1, by omega, rfl⟩), th_113_l hr d i l S m w ok hS hw hok n (x + 1) x (w x) _ (px_nl_I _) (by omega) (by omega)]
    · rw [if_neg c1, if_neg (show ¬ (px_and x (px_xor S (-1)) = 0 ∧ mo < w x ∧ ok x = true) from fun h => c1 h.1), th_113_l hr d i l S m w ok hS hw hok n (x + 1) b mo _ (px_nl_I _) (by omega) (by omega)]
/-- the reference's sum -/
theorem th_224_s (hr : px_hr r) (d : Nat) (i l : MI) (m wh S b mo X G : Int) (rk : Int → Int) (hX : 0 ≤ X ∧ X < 1024) (hG : i 124 4 = G ∧ 0 ≤ G ∧ G ≤ 10) (hk : ∀ g, 0 ≤ g → g < G → i 124 (120 + 14 * g) = rk g ∧ 0 ≤ rk g ∧ rk g ≤ 9) : ∀ (n : Nat) (g x7 : Int), 0 ≤ g → g + n = G → 0 ≤ x7 → x7 ≤ 10 * g →
    px_X (d + 1) 224 (62, [vR 123, vI m, vI wh, vI S, vI b, vI mo, vI X, vI x7, vI g], []) (px_sh L, i, l, r, t) = px_X (d + 1) 224 (62, [vR 123, vI m, vI wh, vI S, vI b, vI mo, vI X, vI (x7 + th_wo rk X n g), vI G], []) (px_sh L, i, l, r, t)
  | 0, g, x7, hg, hn, h70, h71 => by
    show _ = px_X (d + 1) 224 (62, [vR 123, vI m, vI wh, vI S, vI b, vI mo, vI X, vI (x7 + 0), vI G], []) (px_sh L, i, l, r, t)
    rw [Int.add_zero, show g = G by omega]
  | n + 1, g, x7, hg, hn, h70, h71 => by
    have hkg := hk g hg (by omega)
    have wg : px_w32 (g + 1) = g + 1 := ty_w (by omega)
    have w0 : px_w32 (x7 + 0) = x7 := by rw [ty_w (by omega)]; omega
    rw [b224_62 hr, if_neg (by omega), w0, wg]
    by_cases hb : ty_bit X g = true
    · rw [if_pos ((th_b1 hX (by omega)).mpr hb), q146 hr _ _ _ _ _ (by omega) (by omega), show 120 + 14 * g + 0 = 120 + 14 * g by omega, hkg.1, Option.bind_some, px_psh_some, b224_93 hr, wg, ty_w (x := rk g + 1) (by omega), ty_w (x := x7 + (rk g + 1)) (by omega), th_224_s hr d i l m wh S b mo X G rk hX hG hk n (g + 1) (x7 + (rk g + 1)) (by omega) (by omega) (by omega) (by omega)]
      show _ = px_X (d + 1) 224 (62, [vR 123, vI m, vI wh, vI S, vI b, vI mo, vI X, vI (x7 + ((if ty_bit X g = true then rk g + 1 else 0) + th_wo rk X n (g + 1))), vI G], []) (px_sh L, i, l, r, t)
      rw [if_pos hb, Int.add_assoc]
    · rw [if_neg (fun h => hb ((th_b1 hX (by omega)).mp h)), th_224_s hr d i l m wh S b mo X G rk hX hG hk n (g + 1) x7 (by omega) (by omega) (by omega) (by omega)]
      show _ = px_X (d + 1) 224 (62, [vR 123, vI m, vI wh, vI S, vI b, vI mo, vI X, vI (x7 + ((if ty_bit X g = true then rk g + 1 else 0) + th_wo rk X n (g + 1))), vI G], []) (px_sh L, i, l, r, t)
      rw [if_neg hb, Int.zero_add]
theorem th_224_l (hr : px_hr r) (d : Nat) (i l : MI) (m wh S G : Int) (rk : Int → Int) (ok : Int → Bool) (hS : 0 ≤ S ∧ S < 1024) (hG : i 124 4 = G ∧ 0 ≤ G ∧ G ≤ 10) (hk : ∀ g, 0 ≤ g → g < G → i 124 (120 + 14 * g) = rk g ∧ 0 ≤ rk g ∧ rk g ≤ 9) (hok : ∀ X, 0 ≤ X → X < 1024 → px_and X (px_xor S (-1)) = 0 → px_C (d + 1) 223 [vR 123, vI X, vI m] (px_sh L, i, l, r, t) = some (some (vI (ty_b (ok X))), (px_sh L, i, l, r, t))) : ∀ (n : Nat) (x b mo : Int) (v7 v8 : PV), px_nl v7 → px_nl v8 → 0 ≤ x → x + n = S + 1 →
    ∃ v8' : PV, px_nl v8' ∧ px_X (d + 1 + 1) 224 (41, [vR 123, vI m, vI wh, vI S, vI b, vI mo, vI x, v7, v8], []) (px_sh L, i, l, r, t) = px_X (d + 1 + 1) 224 (145, [vR 123, vI m, vI wh, vI S, vI (th_lp ok (fun X => th_wo rk X G.toNat 0) S n x b mo).1, vI (th_lp ok (fun X => th_wo rk X G.toNat 0) S n x b mo).2, vI 0, vI 0, v8'], []) (px_sh L, i, l, r, t)
  | 0, x, b, mo, v7, v8, hn7, hn8, hx, hn => by
    refine ⟨v8, hn8, ?_⟩
    rw [b224_41 hr _ _ _ _ _ _ _ _ _ hn7 hn8, if_pos (by omega)]
    rfl
  | n + 1, x, b, mo, v7, v8, hn7, hn8, hx, hn => by
    have wx : px_w32 (x + 1) = x + 1 := ty_w (by omega)
    have h41 := b224_41 (L := L) (t := t) hr (d + 1 + 1) i l m wh S b mo x hn7 hn8
    rw [if_neg (by omega), wx] at h41
    by_cases c1 : px_and x (px_xor S (-1)) = 0
    · rw [if_pos c1, th_224_s hr (d + 1) i l m wh S b mo x G rk ⟨hx, by omega⟩ hG hk G.toNat 0 0 (by omega) (by omega) (by omega) (by omega), Int.zero_add, b224_62 hr, if_pos (by omega), wx] at h41
      obtain ⟨w, hw⟩ : ∃ w : Int, w = th_wo rk x G.toNat 0 := ⟨_, rfl⟩
      rw [← hw] at h41
      have keep : (¬ (px_and x (px_xor S (-1)) = 0 ∧ mo < th_wo rk x G.toNat 0 ∧ ok x = true)) → px_X (d + 1 + 1) 224 (41, [vR 123, vI m, vI wh, vI S, vI b, vI mo, vI x, v7, v8], []) (px_sh L, i, l, r, t) = px_X (d + 1 + 1) 224 (41, [vR 123, vI m, vI wh, vI S, vI b, vI mo, vI (x + 1), vI w, vI G], []) (px_sh L, i, l, r, t) → ∃ v8' : PV, px_nl v8' ∧ px_X (d + 1 + 1) 224 (41, [vR 123, vI m, vI wh, vI S, vI b, vI mo, vI x, v7, v8], []) (px_sh L, i, l, r, t) = px_X (d + 1 + 1) 224 (145, [vR 123, vI m, vI wh, vI S, vI (th_lp ok (fun X => th_wo rk X G.toNat 0) S (n + 1) x b mo).1, vI (th_lp ok (fun X => th_wo rk X G.toNat 0) S (n + 1) x b mo).2, vI 0, vI 0, v8'], []) (px_sh L, i, l, r, t) := fun hc hxx => by
        obtain ⟨v8', k8, r1⟩ := th_224_l hr d i l m wh S G rk ok hS hG hk hok n (x + 1) b mo (vI w) (vI G) (px_nl_I _) (px_nl_I _) (by omega) (by omega)
        refine ⟨v8', k8, ?_⟩
        have e : th_lp ok (fun X => th_wo rk X G.toNat 0) S (n + 1) x b mo = th_lp ok (fun X => th_wo rk X G.toNat 0) S n (x + 1) b mo := if_neg hc
        rw [e, hxx, r1]
      by_cases c2 : w ≤ mo
      · rw [if_pos c2] at h41
        exact keep (fun h => by omega) h41
      · rw [if_neg c2, hok x hx (by omega) c1, Option.bind_some, px_psh_some, b224_122 hr, wx] at h41
        cases hko : ok x with
        | false =>
          rw [hko, if_pos (show ty_b false = 0 from rfl)] at h41
          exact keep (fun h => by
            have := h.2.2
            rw [hko] at this
            exact absurd this (by decide)) h41
        | true =>
          rw [hko, if_neg (show ¬ ty_b true = 0 by decide)] at h41
          obtain ⟨v8', k8, r1⟩ := th_224_l hr d i l m wh S G rk ok hS hG hk hok n (x + 1) x w (vI w) (vI G) (px_nl_I _) (px_nl_I _) (by omega) (by omega)
          refine ⟨v8', k8, ?_⟩
          have e : th_lp ok (fun X => th_wo rk X G.toNat 0) S (n + 1) x b mo = th_lp ok (fun X => th_wo rk X G.toNat 0) S n (x + 1) x (th_wo rk x G.toNat 0) := if_pos ⟨c1, by show mo < th_wo rk x G.toNat 0; omega, hko⟩
          rw [e, ← hw, h41, r1]
    · rw [if_neg c1] at h41
      obtain ⟨v8', k8, r1⟩ := th_224_l hr d i l m wh S G rk ok hS hG hk hok n (x + 1) b mo v7 v8 hn7 hn8 (by omega) (by omega)
      refine ⟨v8', k8, ?_⟩
      have e : th_lp ok (fun X => th_wo rk X G.toNat 0) S (n + 1) x b mo = th_lp ok (fun X => th_wo rk X G.toNat 0) S n (x + 1) b mo := if_neg (fun h => c1 h.1)
      rw [e, h41, r1]
end THL
