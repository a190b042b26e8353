/-! One instruction: arrays. -/
theorem px_con0 (G : PG) (s : PM) (k : Nat) : px_con G s k 0 = .inl (fun j => Int32.ofInt (s.2.1 k j)) := rfl
theorem px_con1 (G : PG) (s : PM) (k : Nat) : px_con G s k 1 = .inl (fun j => Int32.ofInt (s.2.1 k j)) := rfl
theorem px_con2 (G : PG) (s : PM) (k : Nat) : px_con G s k 2 = .inl (fun j => Int32.ofInt (s.2.1 k j)) := rfl
theorem px_con3 (G : PG) (s : PM) (k : Nat) : px_con G s k 3 = .inr (.inl (fun j => Int64.ofInt (s.2.2.1 k j))) := rfl
theorem px_con4 (G : PG) (s : PM) (k : Nat) {t : Nat} (h : 4 ≤ t) : px_con G s k t = .inr (.inr (.inr (.inr (fun j => (s.2.2.2.1 k j).map (px_adr G))))) := by
  unfold px_con
  rw [if_neg (by omega), if_pos h]
theorem px_nat_of {x : Int} {n : Nat} (h0 : 0 ≤ x) (h1 : x < n) : ∃ i : Nat, x = (i : Int) ∧ i < n := ⟨x.toNat, by omega, by omega⟩
/-- an array's cell with an element written -/
theorem px_upd_i (f : Nat → Int → Int) (k i : Nat) (v : Int) : (fun j : Nat => Int32.ofInt (px_up f k (i : Int) v k j)) = upd (fun j : Nat => Int32.ofInt (f k j)) i (Int32.ofInt v) := by
  funext j
  unfold upd px_up
  by_cases h : j = i
  · subst h; simp
  · rw [if_neg (fun hh => h (by have := hh.2; omega)), if_neg h]
section PX3
variable {p : Program} {l : Launch} {e : Env} {R : Room} {s0 : State} {mi : MethodId} {args : Array Value} {below : List Frame} {meth : Method} {c : Code} {Q : State → Prop}
variable {G : PG} {L : Nat} {xs alw : Nat → Int32} {SF : State → Heap → Prop} {e0 t0 : Nat} {m nL pc : Nat} {pl st : List PV} {s s' : PM} {f' : FR} {H : Heap} {locs : List Loc} {cells slots : Nat} {ls : Array Slot} {rest : List Value}
theorem px_tys_of (hK : va_K G.1 px_cls (px_tysL G) s0) {t : Nat} (ht : px_kdok t) : ∃ (t0 : Nat) (ty : FieldType), (px_tysL G)[t0]? = some (G.2.1 t, ty) ∧ (t = 0 → ty = .int) ∧ (t = 1 → ty = .byte) ∧ (t = 2 → ty = .boolean) ∧ (t = 3 → ty = .long) ∧ (t = 7 → ty = .object "TideGuests$Guest") ∧ (t = 15 → ty = .object "TideGuests$Text") := by
  rcases ht with rfl | rfl | rfl | rfl | rfl | rfl
  · exact ⟨0, .int, rfl, by simp⟩
  · exact ⟨1, .byte, rfl, by simp⟩
  · exact ⟨2, .boolean, rfl, by simp⟩
  · exact ⟨3, .long, rfl, by simp⟩
  · exact ⟨4, .object "TideGuests$Guest", rfl, by simp⟩
  · exact ⟨5, .object "TideGuests$Text", rfl, by simp⟩
theorem px_outer_lt (hE : px_ENV G L xs alw SF s0 s0.heap) : G.2.2.1 < s0.heap.size ∧ ¬ px_A G G.2.2.1 ∧ G.2.2.2.1 < s0.heap.size ∧ ¬ px_A G G.2.2.2.1 := by
  obtain ⟨-, -, -, -, -, -, -, -, ⟨h1, h2, h3⟩, -⟩ := hE
  exact ⟨Nat.lt_of_lt_of_le h1 h3, Nat.not_le.mpr h1, Nat.lt_of_lt_of_le h2 h3, Nat.not_le.mpr h2⟩
/-- arraylength -/
theorem px_o_aln (hC : px_CX p s0 mi args meth c m G L xs alw SF) (hd : decode (px_by m) pc = .ok (.arraylength, 1)) (h : px_aln pc pl st s = some (.inl (f', s')))
    (k : px_AT p l e R s0 mi args below meth c Q G L xs alw nL e0 t0 f' s') : px_AT p l e R s0 mi args below meth c Q G L xs alw nL e0 t0 (pc, pl, st) s := by
  obtain ⟨hx, hb, hml, hown, hts, hin, hE⟩ := hC
  unfold px_aln at h
  split at h
  · rename_i k0 r
    split at h
    · rename_i t n hk
      cases h
      intro H locs ls hLR hok hrel hS
      obtain ⟨-, hok1⟩ := px_okl_cons.mp hok
      obtain ⟨hkd, hn⟩ := hrel.2.2.2.2.1 k0 t n hk
      have hokn : px_okv (vI (n : Int)) := ⟨by omega, by omega⟩
      have kk := k H locs ls hLR (px_okl_cons.mpr ⟨hokn, hok1⟩) hrel hS
      have hnn : (Int32.ofInt (n : Int)) = Int32.ofNat n := rfl
      rcases Nat.lt_or_ge k0 3 with h3 | h3
      · rcases (by omega : k0 = 0 ∨ k0 = 1 ∨ k0 = 2) with rfl | rfl | rfl
        · have := hk.symm.trans hrel.2.2.2.2.2.1
          cases this
          exact va_slen hx hb hE.2.2.2.1 (px_outer_lt hE).1 (px_outer_lt hE).2.1 hS hd kk
        · have := hk.symm.trans hrel.2.2.2.2.2.2.1
          cases this
          exact va_tlen hx hb hE.2.2.2.2.1 hS hnn hd kk
        · have := hk.symm.trans hrel.2.2.2.2.2.2.2.1
          cases this
      · obtain ⟨tt, ty, htt, -⟩ := px_tys_of hE.1 hkd
        exact va_alen hx hb hE.1 hrel.1 (k0 - 3) tt (px_at_arr h3 hk) htt hnn hd kk
    · cases h
  · cases h
/-- an int is read -/
theorem px_o_iald (hC : px_CX p s0 mi args meth c m G L xs alw SF) (hd : decode (px_by m) pc = .ok (.iaload, 1)) (h : px_ild (fun t => t == 0) pc pl st s = some (.inl (f', s')))
    (k : px_AT p l e R s0 mi args below meth c Q G L xs alw nL e0 t0 f' s') : px_AT p l e R s0 mi args below meth c Q G L xs alw nL e0 t0 (pc, pl, st) s := by
  obtain ⟨hx, hb, hml, hown, hts, hin, hE⟩ := hC
  unfold px_ild at h
  split at h
  · rename_i x k0 r
    split at h
    · rename_i t n hk
      split at h
      · rename_i hcnd
        obtain ⟨ht, h0, h1⟩ := hcnd
        have ht : t = 0 := eq_of_beq ht
        subst ht
        cases h
        intro H locs ls hLR hok hrel hS
        obtain ⟨hx1, hok1⟩ := px_okl_cons.mp hok
        obtain ⟨-, hok2⟩ := px_okl_cons.mp hok1
        obtain ⟨i, rfl, hi⟩ := px_nat_of h0 h1
        obtain ⟨g1, g2⟩ := px_idx hx1 h0 h1
        have kk := k H locs ls hLR (px_okl_cons.mpr ⟨(hrel.2.2.2.1 k0 i).1, hok2⟩) hrel hS
        rcases Nat.lt_or_ge k0 3 with h3 | h3
        · rcases (by omega : k0 = 0 ∨ k0 = 1 ∨ k0 = 2) with rfl | rfl | rfl
          · have := hk.symm.trans hrel.2.2.2.2.2.1
            cases this
            refine va_sld hx hb hE.2.2.2.1 (px_outer_lt hE).1 (px_outer_lt hE).2.1 hS g1 hd ?_
            rw [g2, Int.toNat_natCast, ← hrel.2.2.2.2.2.2.2.2.1 i hi]
            exact kk
          · have := hk.symm.trans hrel.2.2.2.2.2.2.1
            cases this
            refine va_ti hx hb hE.2.2.2.2.1 hS g1 rfl hd ?_
            rw [g2, Int.toNat_natCast, ← hrel.2.2.2.2.2.2.2.2.2 i hi]
            exact kk
          · have := hk.symm.trans hrel.2.2.2.2.2.2.2.1
            cases this
        · obtain ⟨tt, ty, htt, hty, -⟩ := px_tys_of hE.1 (Or.inl rfl : px_kdok 0)
          have hty := hty rfl
          subst hty
          refine va_iald hx hb hE.1 hrel.1 (k0 - 3) tt (by rw [px_at_arr h3 hk, px_con0]) htt g1 hd ?_
          rw [g2, Int.toNat_natCast]
          exact kk
      · cases h
    · cases h
  · cases h
theorem px_o_bald (hC : px_CX p s0 mi args meth c m G L xs alw SF) (hd : decode (px_by m) pc = .ok (.baload, 1)) (h : px_ild (fun t => t == 1 || t == 2) pc pl st s = some (.inl (f', s')))
    (k : px_AT p l e R s0 mi args below meth c Q G L xs alw nL e0 t0 f' s') : px_AT p l e R s0 mi args below meth c Q G L xs alw nL e0 t0 (pc, pl, st) s := by
  obtain ⟨hx, hb, hml, hown, hts, hin, hE⟩ := hC
  unfold px_ild at h
  split at h
  · rename_i x k0 r
    split at h
    · rename_i t n hk
      split at h
      · rename_i hcnd
        obtain ⟨ht, h0, h1⟩ := hcnd
        cases h
        intro H locs ls hLR hok hrel hS
        obtain ⟨hx1, hok1⟩ := px_okl_cons.mp hok
        obtain ⟨-, hok2⟩ := px_okl_cons.mp hok1
        obtain ⟨i, rfl, hi⟩ := px_nat_of h0 h1
        obtain ⟨g1, g2⟩ := px_idx hx1 h0 h1
        have kk := k H locs ls hLR (px_okl_cons.mpr ⟨(hrel.2.2.2.1 k0 i).1, hok2⟩) hrel hS
        have h3 : 3 ≤ k0 := by
          rcases Nat.lt_or_ge k0 3 with h3 | h3
          · rcases (by omega : k0 = 0 ∨ k0 = 1 ∨ k0 = 2) with rfl | rfl | rfl
            · have := hk.symm.trans hrel.2.2.2.2.2.1
              cases this
              exact absurd ht (by decide)
            · have := hk.symm.trans hrel.2.2.2.2.2.2.1
              cases this
              exact absurd ht (by decide)
            · have := hk.symm.trans hrel.2.2.2.2.2.2.2.1
              cases this
          · exact h3
        rw [Bool.or_eq_true] at ht
        rcases ht with ht | ht
        · have ht : t = 1 := eq_of_beq ht
          subst ht
          obtain ⟨tt, ty, htt, -, hty, -⟩ := px_tys_of hE.1 (Or.inr (Or.inl rfl) : px_kdok 1)
          have hty := hty rfl
          subst hty
          refine va_bald hx hb hE.1 hrel.1 (k0 - 3) tt (by rw [px_at_arr h3 hk, px_con1]) htt g1 hd ?_
          rw [g2, Int.toNat_natCast]
          exact kk
        · have ht : t = 2 := eq_of_beq ht
          subst ht
          obtain ⟨tt, ty, htt, -, -, hty, -⟩ := px_tys_of hE.1 (Or.inr (Or.inr (Or.inl rfl)) : px_kdok 2)
          have hty := hty rfl
          subst hty
          refine va_zald hx hb hE.1 hrel.1 (k0 - 3) tt (by rw [px_at_arr h3 hk, px_con2]) htt g1 hd ?_
          rw [g2, Int.toNat_natCast]
          exact kk
      · cases h
    · cases h
  · cases h
theorem px_not_outer {k0 t n : Nat} (hrel : px_rel G L xs alw s H) (hk : s.1[k0]? = some (.inr (t, n))) (ht : t ≠ 0) : 3 ≤ k0 := by
  rcases Nat.lt_or_ge k0 3 with h3 | h3
  · rcases (by omega : k0 = 0 ∨ k0 = 1 ∨ k0 = 2) with rfl | rfl | rfl
    · have := hk.symm.trans hrel.2.2.2.2.2.1
      cases this
      exact absurd rfl ht
    · have := hk.symm.trans hrel.2.2.2.2.2.2.1
      cases this
      exact absurd rfl ht
    · have := hk.symm.trans hrel.2.2.2.2.2.2.2.1
      cases this
  · exact h3
theorem px_o_lald (hC : px_CX p s0 mi args meth c m G L xs alw SF) (hd : decode (px_by m) pc = .ok (.laload, 1)) (h : px_jld pc pl st s = some (.inl (f', s')))
    (k : px_AT p l e R s0 mi args below meth c Q G L xs alw nL e0 t0 f' s') : px_AT p l e R s0 mi args below meth c Q G L xs alw nL e0 t0 (pc, pl, st) s := by
  obtain ⟨hx, hb, hml, hown, hts, hin, hE⟩ := hC
  unfold px_jld at h
  split at h
  · rename_i x k0 r
    split at h
    · rename_i t n hk
      split at h
      · rename_i hcnd
        obtain ⟨rfl, h0, h1⟩ := hcnd
        cases h
        intro H locs ls hLR hok hrel hS
        obtain ⟨hx1, hok1⟩ := px_okl_cons.mp hok
        obtain ⟨-, hok2⟩ := px_okl_cons.mp hok1
        obtain ⟨i, rfl, hi⟩ := px_nat_of h0 h1
        obtain ⟨g1, g2⟩ := px_idx hx1 h0 h1
        have kk := k H locs ls hLR (px_okl_cons.mpr ⟨(hrel.2.2.2.1 k0 i).2, hok2⟩) hrel hS
        have h3 := px_not_outer hrel hk (by omega)
        obtain ⟨tt, ty, htt, -, -, -, hty, -⟩ := px_tys_of hE.1 (Or.inr (Or.inr (Or.inr (Or.inl rfl))) : px_kdok 3)
        have hty := hty rfl
        subst hty
        refine va_lald hx hb hE.1 hrel.1 (k0 - 3) tt (by rw [px_at_arr h3 hk, px_con3]) htt g1 hd ?_
        rw [g2, Int.toNat_natCast]
        exact kk
      · cases h
    · cases h
  · cases h
theorem px_kd_ref {t : Nat} (h : px_kdok t) (h4 : 4 ≤ t) : t = 7 ∨ t = 15 := by
  unfold px_kdok at h
  omega
theorem px_o_aald (hC : px_CX p s0 mi args meth c m G L xs alw SF) (hd : decode (px_by m) pc = .ok (.aaload, 1)) (h : px_qld pc pl st s = some (.inl (f', s')))
    (k : px_AT p l e R s0 mi args below meth c Q G L xs alw nL e0 t0 f' s') : px_AT p l e R s0 mi args below meth c Q G L xs alw nL e0 t0 (pc, pl, st) s := by
  obtain ⟨hx, hb, hml, hown, hts, hin, hE⟩ := hC
  unfold px_qld at h
  split at h
  · rename_i x k0 r
    split at h
    · rename_i t n hk
      split at h
      · rename_i hcnd
        obtain ⟨h4, h0, h1⟩ := hcnd
        cases h
        intro H locs ls hLR hok hrel hS
        obtain ⟨hx1, hok1⟩ := px_okl_cons.mp hok
        obtain ⟨-, hok2⟩ := px_okl_cons.mp hok1
        obtain ⟨i, rfl, hi⟩ := px_nat_of h0 h1
        obtain ⟨g1, g2⟩ := px_idx hx1 h0 h1
        have kk := k H locs ls hLR (px_okl_cons.mpr ⟨trivial, hok2⟩) hrel hS
        have h3 := px_not_outer hrel hk (by omega)
        have hkd := (hrel.2.2.2.2.1 k0 t n hk).1
        obtain ⟨tt, ty, htt, -, -, -, -, hty7, hty15⟩ := px_tys_of hE.1 hkd
        have hcon : (px_wl G s)[k0 - 3]? = some (px_adr G k0, .inl (G.2.1 t, n, .inr (.inr (.inr (.inr (fun j => (s.2.2.2.1 k0 j).map (px_adr G))))))) := by rw [px_at_arr h3 hk, px_con4 G s k0 h4]
        rcases px_kd_ref hkd h4 with h7 | h7
        · have hty := hty7 h7
          subst hty
          refine va_aldq hx hb hE.1 hrel.1 (k0 - 3) tt hcon htt g1 hd ?_
          rw [g2, Int.toNat_natCast]
          exact kk
        · have hty := hty15 h7
          subst hty
          refine va_aldq hx hb hE.1 hrel.1 (k0 - 3) tt hcon htt g1 hd ?_
          rw [g2, Int.toNat_natCast]
          exact kk
      · cases h
    · cases h
  · cases h
/-- the world behind an array's store -/
theorem px_arr_after {k0 t n : Nat} {s2 : PM} {H1 : Heap} (hrel : px_rel G L xs alw s H) (h3 : 3 ≤ k0) (hk : s.1[k0]? = some (.inr (t, n))) (hsh : s2.1 = s.1) (hoth : ∀ q : Nat, q ≠ k0 → (s2.2.1 q = s.2.1 q ∧ s2.2.2.1 q = s.2.2.1 q ∧ s2.2.2.2.1 q = s.2.2.2.1 q)) (hm2 : px_okm s2)
    (e1 : H1[px_adr G k0]? = some (vp_cell (G.2.1 t) (n, px_con G s2 k0 t))) (e2 : H1.size = H.size) (e3 : ∀ q : Nat, q ≠ px_adr G k0 → H1[q]? = H[q]?) : px_rel G L xs alw s2 H1 := by
  refine px_rel_set hrel h3 (px_lt_of hk) hsh hoth hm2 ?_ e2 e3
  unfold px_cel
  rw [hsh, hk]
  exact e1
theorem px_o_iast (hC : px_CX p s0 mi args meth c m G L xs alw SF) (hd : decode (px_by m) pc = .ok (.iastore, 1)) (h : px_iss pc pl st s = some (.inl (f', s')))
    (k : px_AT p l e R s0 mi args below meth c Q G L xs alw nL e0 t0 f' s') : px_AT p l e R s0 mi args below meth c Q G L xs alw nL e0 t0 (pc, pl, st) s := by
  obtain ⟨hx, hb, hml, hown, hts, hin, hE⟩ := hC
  unfold px_iss at h
  split at h
  · rename_i v x k0 r
    split at h
    · rename_i t n hk
      split at h
      · rename_i hcnd
        obtain ⟨rfl, h0, h1, h3⟩ := hcnd
        cases h
        intro H locs ls hLR hok hrel hS
        obtain ⟨hv1, hok1⟩ := px_okl_cons.mp hok
        obtain ⟨hx1, hok2⟩ := px_okl_cons.mp hok1
        obtain ⟨-, hok3⟩ := px_okl_cons.mp hok2
        obtain ⟨i, rfl, hi⟩ := px_nat_of h0 h1
        obtain ⟨g1, g2⟩ := px_idx hx1 h0 h1
        obtain ⟨tt, ty, htt, hty, -⟩ := px_tys_of hE.1 (Or.inl rfl : px_kdok 0)
        have hty := hty rfl
        subst hty
        have ha := hrel.1 _ _ (px_at_arr h3 hk)
        have haA : px_A G (px_adr G k0) := by rw [px_adr_in G h3]; exact Nat.le_add_right _ _
        refine W.iast (a := px_adr G k0) hx hb ha ((hE.1.2 tt _ htt).1 n (fun j => .int (Int32.ofInt (s.2.1 k0 j)))) (fun q => by cases q) (by show ¬ (_ < 0 ∨ (arrV _ _ _).slots.size ≤ _); rw [arrV_size]; exact g1) rfl rfl hd fun H1 e z oq => ?_
        refine k H1 _ ls hLR hok3 (px_arr_after hrel h3 hk rfl (fun q hq => ⟨px_up_row _ _ _ hq, rfl, rfl⟩) (px_okm_i hrel.2.2.2.1 k0 _ v hv1) ?_ z oq) (hS.put z oq haA)
        rw [e, px_con0, px_con0, vp_cell_i, vp_cell_i, arrV_store, g2, Int.toNat_natCast]
        congr 2
        funext q
        by_cases hq : q = i
        · subst hq
          simp [updV, px_up]
        · have : ¬ ((q : Int) = (i : Int)) := by omega
          simp [updV, px_up, hq, this]
      · cases h
    · cases h
  · cases h
theorem px_o_bast (hC : px_CX p s0 mi args meth c m G L xs alw SF) (hd : decode (px_by m) pc = .ok (.bastore, 1)) (h : px_bss pc pl st s = some (.inl (f', s')))
    (k : px_AT p l e R s0 mi args below meth c Q G L xs alw nL e0 t0 f' s') : px_AT p l e R s0 mi args below meth c Q G L xs alw nL e0 t0 (pc, pl, st) s := by
  obtain ⟨hx, hb, hml, hown, hts, hin, hE⟩ := hC
  unfold px_bss at h
  split at h
  · rename_i v x k0 r
    split at h
    · rename_i t n hk
      split at h
      · rename_i hcnd
        obtain ⟨rfl, h0, h1, h3⟩ := hcnd
        cases h
        intro H locs ls hLR hok hrel hS
        obtain ⟨hv1, hok1⟩ := px_okl_cons.mp hok
        obtain ⟨hx1, hok2⟩ := px_okl_cons.mp hok1
        obtain ⟨-, hok3⟩ := px_okl_cons.mp hok2
        obtain ⟨i, rfl, hi⟩ := px_nat_of h0 h1
        obtain ⟨g1, g2⟩ := px_idx hx1 h0 h1
        obtain ⟨tt, ty, htt, -, hty, -⟩ := px_tys_of hE.1 (Or.inr (Or.inl rfl) : px_kdok 1)
        have hty := hty rfl
        subst hty
        have ha := hrel.1 _ _ (px_at_arr h3 hk)
        have haA : px_A G (px_adr G k0) := by rw [px_adr_in G h3]; exact Nat.le_add_right _ _
        refine W.bast (a := px_adr G k0) hx hb ha ((hE.1.2 tt _ htt).1 n (fun j => .int (Int32.ofInt (s.2.1 k0 j)))) (fun q => by cases q) (by show ¬ (_ < 0 ∨ (arrV _ _ _).slots.size ≤ _); rw [arrV_size]; exact g1) rfl rfl hd fun H1 e z oq => ?_
        refine k H1 _ ls hLR hok3 (px_arr_after hrel h3 hk rfl (fun q hq => ⟨px_up_row _ _ _ hq, rfl, rfl⟩) (px_okm_i hrel.2.2.2.1 k0 _ _ (px_ir32 _)) ?_ z oq) (hS.put z oq haA)
        rw [e, px_con1, px_con1, vp_cell_i, vp_cell_i, arrV_store, g2, Int.toNat_natCast]
        congr 2
        funext q
        by_cases hq : q = i
        · subst hq
          simp [updV, px_up, narrow, px_i2bE]
        · have : ¬ ((q : Int) = (i : Int)) := by omega
          simp [updV, px_up, hq, this]
      · split at h
        · rename_i hcnd
          obtain ⟨rfl, h0, h1, h3, hv01⟩ := hcnd
          cases h
          intro H locs ls hLR hok hrel hS
          obtain ⟨hv1, hok1⟩ := px_okl_cons.mp hok
          obtain ⟨hx1, hok2⟩ := px_okl_cons.mp hok1
          obtain ⟨-, hok3⟩ := px_okl_cons.mp hok2
          obtain ⟨i, rfl, hi⟩ := px_nat_of h0 h1
          obtain ⟨g1, g2⟩ := px_idx hx1 h0 h1
          obtain ⟨tt, ty, htt, -, -, hty, -⟩ := px_tys_of hE.1 (Or.inr (Or.inr (Or.inl rfl)) : px_kdok 2)
          have hty := hty rfl
          subst hty
          have ha := hrel.1 _ _ (px_at_arr h3 hk)
          have haA : px_A G (px_adr G k0) := by rw [px_adr_in G h3]; exact Nat.le_add_right _ _
          have hnar : narrow .boolean (.int (Int32.ofInt v)) = .int (Int32.ofInt v) := by rcases hv01 with rfl | rfl <;> rfl
          refine W.zast (a := px_adr G k0) hx hb ha ((hE.1.2 tt _ htt).1 n (fun j => .int (Int32.ofInt (s.2.1 k0 j)))) (fun q => by cases q) (by show ¬ (_ < 0 ∨ (arrV _ _ _).slots.size ≤ _); rw [arrV_size]; exact g1) rfl rfl hd fun H1 e z oq => ?_
          refine k H1 _ ls hLR hok3 (px_arr_after hrel h3 hk rfl (fun q hq => ⟨px_up_row _ _ _ hq, rfl, rfl⟩) (px_okm_i hrel.2.2.2.1 k0 _ v hv1) ?_ z oq) (hS.put z oq haA)
          rw [e, px_con2, px_con2, vp_cell_i, vp_cell_i, hnar, arrV_store, g2, Int.toNat_natCast]
          congr 2
          funext q
          by_cases hq : q = i
          · subst hq
            simp [updV, px_up]
          · have : ¬ ((q : Int) = (i : Int)) := by omega
            simp [updV, px_up, hq, this]
        · cases h
    · cases h
  · cases h
theorem px_o_last (hC : px_CX p s0 mi args meth c m G L xs alw SF) (hd : decode (px_by m) pc = .ok (.lastore, 1)) (h : px_jss pc pl st s = some (.inl (f', s')))
    (k : px_AT p l e R s0 mi args below meth c Q G L xs alw nL e0 t0 f' s') : px_AT p l e R s0 mi args below meth c Q G L xs alw nL e0 t0 (pc, pl, st) s := by
  obtain ⟨hx, hb, hml, hown, hts, hin, hE⟩ := hC
  unfold px_jss at h
  split at h
  · rename_i v x k0 r
    split at h
    · rename_i t n hk
      split at h
      · rename_i hcnd
        obtain ⟨rfl, h0, h1, h3⟩ := hcnd
        cases h
        intro H locs ls hLR hok hrel hS
        obtain ⟨hv1, hok1⟩ := px_okl_cons.mp hok
        obtain ⟨hx1, hok2⟩ := px_okl_cons.mp hok1
        obtain ⟨-, hok3⟩ := px_okl_cons.mp hok2
        obtain ⟨i, rfl, hi⟩ := px_nat_of h0 h1
        obtain ⟨g1, g2⟩ := px_idx hx1 h0 h1
        obtain ⟨tt, ty, htt, -, -, -, hty, -⟩ := px_tys_of hE.1 (Or.inr (Or.inr (Or.inr (Or.inl rfl))) : px_kdok 3)
        have hty := hty rfl
        subst hty
        have ha := hrel.1 _ _ (px_at_arr h3 hk)
        have haA : px_A G (px_adr G k0) := by rw [px_adr_in G h3]; exact Nat.le_add_right _ _
        refine W.last (a := px_adr G k0) hx hb ha ((hE.1.2 tt _ htt).1 n (fun j => .long (Int64.ofInt (s.2.2.1 k0 j)))) (fun q => by cases q) (by show ¬ (_ < 0 ∨ (arrV _ _ _).slots.size ≤ _); rw [arrV_size]; exact g1) rfl rfl hd fun H1 e z oq => ?_
        refine k H1 _ ls hLR hok3 (px_arr_after hrel h3 hk rfl (fun q hq => ⟨rfl, px_up_row _ _ _ hq, rfl⟩) (px_okm_l hrel.2.2.2.1 k0 _ v hv1) ?_ z oq) (hS.put z oq haA)
        rw [e, px_con3, px_con3, vp_cell_l, vp_cell_l, arrV_store, g2, Int.toNat_natCast]
        congr 2
        funext q
        by_cases hq : q = i
        · subst hq
          simp [updV, px_up]
        · have : ¬ ((q : Int) = (i : Int)) := by omega
          simp [updV, px_up, hq, this]
      · cases h
    · cases h
  · cases h
theorem px_o_aast (hC : px_CX p s0 mi args meth c m G L xs alw SF) (hd : decode (px_by m) pc = .ok (.aastore, 1)) (h : px_qss pc pl st s = some (.inl (f', s')))
    (k : px_AT p l e R s0 mi args below meth c Q G L xs alw nL e0 t0 f' s') : px_AT p l e R s0 mi args below meth c Q G L xs alw nL e0 t0 (pc, pl, st) s := by
  obtain ⟨hx, hb, hml, hown, hts, hin, hE⟩ := hC
  unfold px_qss at h
  split at h
  · rename_i v x k0 r
    split at h
    · rename_i t n hk
      split at h
      · rename_i hcnd
        obtain ⟨h4, h0, h1, h3, hv, hv3⟩ := hcnd
        cases h
        intro H locs ls hLR hok hrel hS
        obtain ⟨-, hok1⟩ := px_okl_cons.mp hok
        obtain ⟨hx1, hok2⟩ := px_okl_cons.mp hok1
        obtain ⟨-, hok3⟩ := px_okl_cons.mp hok2
        obtain ⟨i, rfl, hi⟩ := px_nat_of h0 h1
        obtain ⟨g1, g2⟩ := px_idx hx1 h0 h1
        have hkd := (hrel.2.2.2.2.1 k0 t n hk).1
        obtain ⟨tt, ty, htt, -, -, -, -, hty7, hty15⟩ := px_tys_of hE.1 hkd
        have ha : H[px_adr G k0]? = some (vp_cell (G.2.1 t) (n, px_con G s k0 t)) := hrel.1 _ _ (px_at_arr h3 hk)
        rw [px_con4 G s k0 h4] at ha
        have haA : px_A G (px_adr G k0) := by rw [px_adr_in G h3]; exact Nat.le_add_right _ _
        have hty : ∃ ci, ci < 13 ∧ t - 4 = ci ∧ ty = .object (px_own ci) := by
          rcases px_kd_ref hkd h4 with h7 | h7
          · exact ⟨3, by omega, by omega, hty7 h7⟩
          · exact ⟨11, by omega, by omega, hty15 h7⟩
        obtain ⟨ci, hci, htc, rfl⟩ := hty
        rw [htc] at hv
        have hvat := hrel.1 _ _ (px_at_obj hv3 hv)
        obtain ⟨r', hr', cellV, c1, c2, c3, -⟩ := hvat
        have hcl := px_cls_ok hci
        have hre : r' = (px_own ci, px_Fo ci, px_nf ci) := Option.some.inj (hr'.symm.trans hcl)
        subst hre
        have hcls := (hE.1.1 ci _ hcl).2
        obtain ⟨kA, comp, k1, k2, k3, -⟩ := (hE.1.2 tt _ htt).2
        have hcomp : comp = G.1.1 ci := Option.some.inj (k3.symm.trans hcls.1)
        subst hcomp
        obtain ⟨kC, hkC, -⟩ := hcls.2
        have hlt : (Int32.ofInt (i : Int)).toNatClampNeg < n := Nat.not_le.mp fun q => g1 (Or.inr q)
        refine W.aast (a := px_adr G k0) (v := px_adr G v) hx hb ha (fun q h => by cases h) (fun h => by cases h) k1 k2 rfl hkC ⟨fun q => g1 (Or.inl q), by show _ < (arrV _ _ _).slots.size; rw [arrV_size]; exact hlt⟩ c1 (fun q h => by rw [c3] at h; cases h) (by rw [c2]; exact hkC) (by rw [c2]; exact va_assign hcls) rfl rfl hd fun H1 e z oq => ?_
        refine k H1 _ ls hLR hok3 (px_arr_after hrel h3 hk rfl (fun q hq => ⟨rfl, rfl, px_up_row _ _ _ hq⟩) hrel.2.2.2.1 ?_ z oq) (hS.put z oq haA)
        rw [e, px_con4 _ _ _ h4, vp_cell_q, vp_cell_q, arrV_store, g2, Int.toNat_natCast]
        congr 2
        funext q
        by_cases hq : q = i
        · subst hq
          simp [updV, px_up, va_rf]
        · have : ¬ ((q : Int) = (i : Int)) := by omega
          simp [updV, px_up, hq, this]
      · cases h
    · cases h
  · cases h
end PX3
