/-! text: readSum. -/
def tz_n1 (x : Int) : Nat := if x = 0 then 0 else 1
theorem tz_n1_b (x : Int) : tz_n1 x ≤ 1 ∧ (x = 0 → tz_n1 x = 0) ∧ (¬ x = 0 → tz_n1 x = 1) := by
  unfold tz_n1
  by_cases h : x = 0
  · rw [if_pos h]
    exact ⟨by omega, fun _ => rfl, fun g => absurd h g⟩
  · rw [if_neg h]
    exact ⟨by omega, fun g => absurd g h, fun _ => rfl⟩
theorem tz_pd_len2 (add sca : Int) (f : Nat) : (tz_pd add sca f).length = tz_n1 sca + tz_n1 add := tz_pd_len add sca f
theorem tz_fs_len (x : Int) (C : List Int) : (tz_fs x C).length = C.length + tz_n1 x := by
  unfold tz_fs tz_n1
  by_cases h : x = 0
  · rw [if_pos h, if_pos h]; rfl
  · rw [if_neg h, if_neg h]; rfl
theorem tz_fs_mc {kd x : Int} {C : List Int} (h : x = 0 ∨ (10 ≤ x ∧ x ≤ 13)) (hC : tz_mc kd C) : tz_mc kd (tz_fs x C) := by
  unfold tz_fs
  by_cases h0 : x = 0
  · rw [if_pos h0]
    exact hC
  · rw [if_neg h0]
    exact tz_mc_cons ⟨by omega, fun g => by omega⟩ hC
theorem tz_fs_ck {x : Int} {C : List Int} {st : List Bool} (h : x = 0 ∨ (10 ≤ x ∧ x ≤ 13)) (hC : tz_ck C = some (false :: ((if x = 0 then [] else [false]) ++ st))) : tz_ck (tz_fs x C) = some (false :: st) := by
  unfold tz_fs
  by_cases h0 : x = 0
  · rw [if_pos h0] at hC ⊢
    exact hC
  · rw [if_neg h0] at hC ⊢
    exact tz_ck_bin hC (by omega)
section TYCS
variable {L tt : Nat} {r : MR} {K U PL : Nat → Int} {m : Nat} {D : List (Int × List Int)} {kd : Int}
/-- a sign put down, if there is one -/
theorem tz_135f (hr : px_hr r) {t : Nat} {o : Int} (d : Nat) (i l : MI) (x : Int) (C : List Int) (h : tz_cm K U PL m kd t o (C ++ tz_gl D) i) (hl : (C ++ tz_gl D).length + tz_n1 x ≤ 300) (hx : ¬ x = 0 → 10 ≤ x ∧ x ≤ 31) :
    ∃ i1 : MI, (if x = 0 then some ((none : Option PV), (px_sh L, i, l, r, tt)) else px_C d 135 [vR 59, vI (px_w32 (10000 + x))] (px_sh L, i, l, r, tt)) = some (none, (px_sh L, i1, l, r, tt)) ∧ tz_cm K U PL m kd t o (tz_fs x C ++ tz_gl D) i1 ∧ tz_cq i i1 := by
  unfold tz_fs
  by_cases h0 : x = 0
  · rw [if_pos h0, if_pos h0]
    exact ⟨i, rfl, h, tz_cq_rf⟩
  · have hn := (tz_n1_b x).2.2 h0
    rw [if_neg h0, if_neg h0, ty_w (by have := hx h0; omega)]
    exact tz_135 (L := L) (r := r) (tt := tt) (X := C ++ tz_gl D) hr d i l (10000 + x) h (by omega)
theorem tz_sum_te (hr : px_hr r) (d : Nat) (i l : MI) (x1 x2 x3 : Int) {v4 : PV} (hn4 : px_nl v4) (e p : Int) (h : tz_er e p i) : ∃ i1 : MI, px_X (d + 1) 105 (24, [vR 58, vI x1, vI x2, vI x3, v4], []) (px_sh L, i, l, r, tt) = some (none, (px_sh L, i1, l, r, tt)) ∧ tz_er e p i1 ∧ tz_cq i i1 := by
  have s124 : ∀ (i : MI) (x1 x2 x4 : Int), tz_er e p i → ∃ i1 : MI, px_X (d + 1) 105 (124, [vR 58, vI x1, vI x2, vI x3, vI x4], []) (px_sh L, i, l, r, tt) = some (none, (px_sh L, i1, l, r, tt)) ∧ tz_er e p i1 ∧ tz_cq i i1 := fun i x1 x2 x4 h => by
    have h2 : tz_er e p (px_up i 58 9 (px_w32 (i 58 9 + 1))) := tz_er_8 h (by decide) (by decide)
    refine ⟨px_up i 58 9 (px_w32 (i 58 9 + 1)), ?_, h2, tz_cq_8 (by omega)⟩
    rw [b105_124 hr, b105_6 hr _ _ _ _ _ _ (px_nl_I _)]
    by_cases h3 : 300 < px_w32 (x3 + 1)
    · rw [if_pos h3]
    · rw [if_neg h3, if_neg (fun g => h2.2.2 (h2.1.symm.trans g))]
  have s94 : ∀ (i : MI) (x1 x2 x4 : Int), tz_er e p i → ∃ i1 : MI, px_X (d + 1) 105 (94, [vR 58, vI x1, vI x2, vI x3, vI x4], []) (px_sh L, i, l, r, tt) = some (none, (px_sh L, i1, l, r, tt)) ∧ tz_er e p i1 ∧ tz_cq i i1 := fun i x1 x2 x4 h => by
    have s114 : ∀ x5 : Int, ∃ i1 : MI, px_X (d + 1) 105 (114, [vR 58, vI x1, vI x2, vI x3, vI x4], [vI x5]) (px_sh L, i, l, r, tt) = some (none, (px_sh L, i1, l, r, tt)) ∧ tz_er e p i1 ∧ tz_cq i i1 := fun x5 => by
      rw [b105_114 hr]
      by_cases h2 : x2 = 0
      · rw [if_pos h2]
        by_cases h5 : x5 = 0
        · rw [if_pos h5]
          exact ⟨i, rfl, h, tz_cq_rf⟩
        · rw [if_neg h5]
          exact s124 i x5 x2 x4 h
      · rw [if_neg h2]
        exact s124 i x5 x2 x4 h
    rw [b105_94 hr]
    by_cases h1 : x4 = 10
    · rw [if_pos h1, b105_108 hr]
      exact s114 x4
    · rw [if_neg h1]
      by_cases h2 : x4 = 11
      · rw [if_pos h2, b105_108 hr]
        exact s114 x4
      · rw [if_neg h2]
        exact s114 0
  have s40 : ∀ (i : MI), tz_er e p i → ∃ i1 : MI, px_X (d + 1) 105 (40, [vR 58, vI x1, vI x2, vI x3, v4], []) (px_sh L, i, l, r, tt) = some (none, (px_sh L, i1, l, r, tt)) ∧ tz_er e p i1 ∧ tz_cq i i1 := fun i h => by
    have s73 : ∀ x4 x5 : Int, ∃ i1 : MI, px_X (d + 1) 105 (73, [vR 58, vI x1, vI x2, vI x3, vI x4], [vI x5]) (px_sh L, i, l, r, tt) = some (none, (px_sh L, i1, l, r, tt)) ∧ tz_er e p i1 ∧ tz_cq i i1 := fun x4 x5 => by
      rw [b105_73 hr]
      by_cases h5 : x5 = 0
      · rw [if_pos h5]
        by_cases h1 : x1 = 0
        · rw [if_pos h1]
          exact s94 i x1 x5 x4 h
        · obtain ⟨ia, ra, ea, qa⟩ := tz_135e (L := L) (r := r) (tt := tt) hr d i l (px_w32 (10000 + x1)) e p h
          rw [if_neg h1, ra, Option.bind_some, px_psh_none]
          obtain ⟨ib, rb, eb, qb⟩ := s94 ia x1 x5 x4 ea
          exact ⟨ib, rb, eb, tz_cq_tr qa qb⟩
      · rw [if_neg h5, if_neg h5]
        exact s124 i x1 x5 x4 h
    obtain ⟨v, hv⟩ := tz_33k (L := L) (r := r) (tt := tt) hr d i l (i 58 9)
    rw [b105_40 hr _ _ _ _ _ _ hn4, hv, Option.bind_some, px_psh_some, b105_51 hr _ _ _ _ _ _ hn4]
    by_cases h1 : v = 12
    · rw [if_pos h1, b105_67 hr]
      exact s73 v v
    · rw [if_neg h1]
      by_cases h2 : v = 13
      · rw [if_pos h2, b105_67 hr]
        exact s73 v v
      · rw [if_neg h2]
        exact s73 v 0
  rw [b105_24 hr _ _ _ _ _ _ hn4]
  by_cases h2 : x2 = 0
  · rw [if_pos h2]
    exact s40 i h
  · obtain ⟨ia, ra, ea, qa⟩ := tz_135e (L := L) (r := r) (tt := tt) hr d i l (px_w32 (10000 + x2)) e p h
    rw [if_neg h2, ra, Option.bind_some, px_psh_none]
    obtain ⟨ib, rb, eb, qb⟩ := s40 ia ea
    exact ⟨ib, rb, eb, tz_cq_tr qa qb⟩
theorem tz_sum_s (hK : tz_tk K U m) (hD : D.length < 10) (k : Nat) (HS : tz_SP K U PL m D kd k) : tz_SP K U PL m D kd (k + 1) := by
  intro L tt r hr dp e i l t o F W C st q add sca x3 v4 hn4 hsg hx3 hk he h ht hl hfw hF hck hst hc
  obtain ⟨hbt, ⟨f1, f2, f3, f4⟩, f5⟩ := hfw
  have hm := hK.1
  have hpl := tz_pd_len2 add sca F.length
  have hns := tz_n1_b sca
  have hna := tz_n1_b add
  have hpl2 : (tz_pd add sca F.length).length ≤ 2 := by
    rw [hpl]
    omega
  have hW1 : (tz_pd add sca F.length ++ W).length = (tz_pd add sca F.length).length + W.length := List.length_append
  have hst1 : (((if sca = 0 then ([] : List Bool) else [false]) ++ (if add = 0 then [] else [false]) ++ st).length : Int) ≤ 5 + 2 * o := by
    rw [List.length_append, List.length_append]
    have e1 : (if sca = 0 then ([] : List Bool) else [false]).length ≤ 1 := by
      split
      · exact Nat.zero_le _
      · exact Nat.le_refl _
    have e2 : (if add = 0 then ([] : List Bool) else [false]).length ≤ 1 := by
      split
      · exact Nat.zero_le _
      · exact Nat.le_refl _
    omega
  have e0 : o + ((0 : Nat) : Int) = o := by omega
  have hone := tz_one_n (L := L) (r := r) (tt := tt) hr hK k HS dp e l o F (tz_pd add sca F.length ++ W) C _ (q + (tz_pd add sca F.length).length) he hbt ⟨f1, f2, by rw [hW1]; omega⟩ (tz_pd_hd add sca F.length W f5) hF hD hck hst1 hc 8 0 i t (by omega) (by omega) hk (by rw [e0]; exact h) ht (by omega)
  rw [e0, List.replicate_zero, List.nil_append, show ((0 : Nat) : Int) = 0 from rfl] at hone
  obtain ⟨ia, ra, qa, oa⟩ := hone
  have rone : px_C (dp + 2 * e + 3) 106 [vR 58] (px_sh L, i, l, r, tt) = some (none, (px_sh L, ia, l, r, tt)) := by
    rw [e106, b106_0 hr]
    exact ra
  rw [b105_6 hr _ _ _ _ _ _ hn4, if_neg (by omega), if_pos h.2.2.1.1, rone, Option.bind_some, px_psh_none]
  rcases oa with ⟨t', C', ⟨t1, t2⟩, c1, to1, len1, ck1, mc1⟩ | ⟨f, t', er1, to1⟩
  · have hsa : add = 0 ∨ (10 ≤ add ∧ add ≤ 13) := by have := hsg.1; omega
    have hss : sca = 0 ∨ (10 ≤ sca ∧ sca ≤ 13) := by have := hsg.2; omega
    rw [hpl] at len1
    have hk0 := hK.2.1 t' t2
    -- the class puts the sign of scaling down
    obtain ⟨ib, rb, cb, qb⟩ := tz_135f (L := L) (r := r) (tt := tt) hr (dp + 2 * e + 3) ia l sca C' c1 (by omega) (by omega)
    have r24 : px_X (dp + 2 * e + 3 + 1) 105 (24, [vR 58, vI add, vI sca, vI x3, v4], []) (px_sh L, ia, l, r, tt) = px_X (dp + 2 * e + 3 + 1) 105 (40, [vR 58, vI add, vI sca, vI x3, v4], []) (px_sh L, ib, l, r, tt) := by
      rw [b105_24 hr _ _ _ _ _ _ hn4]
      by_cases h0 : sca = 0
      · rw [if_pos h0] at rb ⊢
        have := Option.some.inj rb
        have ei : ia = ib := congrArg (fun q => q.2.2.1) this
        rw [ei]
      · rw [if_neg h0] at rb ⊢
        rw [rb, Option.bind_some, px_psh_none]
    have h33 := tz_33 (L := L) (r := r) (tt := tt) hr (dp + 2 * e + 3) ib l cb t2 hm
    have hck2 : tz_ck (tz_fs sca C') = some (false :: ((if add = 0 then [] else [false]) ++ st)) := tz_fs_ck hss (by
      rw [ck1, List.append_assoc])
    have hck3 : tz_ck (tz_fs add (tz_fs sca C')) = some (false :: st) := tz_fs_ck hsa hck2
    have hl2 := tz_fs_len sca C'
    have hl3 := tz_fs_len add (tz_fs sca C')
    rw [List.length_append] at len1
    have hbd : tz_bd m (t', o, F, tz_pd add sca F.length ++ W, 2, C', D, kd) := tz_bd_mk 2 (by omega) t2 (by omega) f1 (by rw [hW1]; omega) (by rw [List.length_append]; omega) hD hbt
    have hn42 : ¬ ((t', o, F, tz_pd add sca F.length ++ W, (2 : Int), C', D, kd).2.2.2.2.1 = 4 ∧ K (t', o, F, tz_pd add sca F.length ++ W, (2 : Int), C', D, kd).1 = 0) := fun g => absurd g.1 (show ¬ (2 : Int) = 4 by omega)
    have hstp : tz_stp K U (t', o, F, tz_pd add sca F.length ++ W, 2, C', D, kd) = tz_s2 K t' o F (tz_pd add sca F.length ++ W) C' D kd := rfl
    have next : ∀ (ic : MI) (add' sca' : Int), tz_cm K U PL m kd t' o (tz_fs 0 (if sca' = 0 then tz_fs add (tz_fs sca C') else tz_fs sca C') ++ tz_gl D) ic → tz_cq i ic → t' < m → tz_sg add' sca' → (¬ sca' = 0 ∧ add' = add ∧ K t' = sca' ∨ sca' = 0 ∧ ¬ add' = 0 ∧ K t' = add') →
        ∃ i1 : MI, px_X (dp + 2 * e + 3 + 1) 105 (124, [vR 58, vI add', vI sca', vI x3, vI (K t')], []) (px_sh L, ic, l, r, tt) = some (none, (px_sh L, i1, l, r, tt)) ∧ tz_cq i i1 ∧
          (tz_sgd K U PL m (t, o, F, tz_pd add sca F.length ++ W, 1, C, D, kd) t o F W D kd st q i1 ∨ tz_bad K U PL m (t, o, F, tz_pd add sca F.length ++ W, 1, C, D, kd) i1) := fun ic add' sca' cc qc htm hsg' hcase => by
      obtain ⟨C2, hC2⟩ : ∃ C2, C2 = if sca' = 0 then tz_fs add (tz_fs sca C') else tz_fs sca C' := ⟨_, rfl⟩
      have e00 : tz_fs 0 C2 = C2 := if_pos rfl
      rw [← hC2, e00] at cc
      have hto : tz_to K U m (t', o, F, tz_pd add sca F.length ++ W, 2, C', D, kd) (.inr (t' + 1, o, F, tz_pd add' sca' F.length ++ W, 1, C2, D, kd)) := tz_to_s hbd hn42 (by
        rw [hstp]
        unfold tz_s2 tz_wf
        rcases hcase with ⟨g1, g2, g3⟩ | ⟨g1, g2, g3⟩
        · have hs := hsg'.2
          have er : tz_rk (K t') = 4 := by rw [g3]; exact tz_rk_s (by omega)
          rw [if_pos (by omega), er, tz_wk_4 hsg f5, hC2, if_neg g1, g2, g3]
          have ep : tz_pd add sca' F.length = (sca', F.length) :: tz_pd add 0 F.length := by
            unfold tz_pd
            rw [if_neg g1, if_pos rfl]
            rfl
          rw [ep]
          rfl
        · have hs := hsg'.1
          have er : tz_rk (K t') = 3 := by rw [g3]; exact tz_rk_a (by omega)
          rw [if_pos (by omega), er, tz_wk_3 hsg (by omega) f5, hC2, if_pos g1, g3, g1]
          have ep : tz_pd add' 0 F.length = [(add', F.length)] := by
            unfold tz_pd
            rw [if_pos rfl, if_neg g2]
            rfl
          rw [ep]
          rfl) tz_to_rf
      have hpl' := tz_pd_len2 add' sca' F.length
      have hns' := tz_n1_b sca'
      have hna' := tz_n1_b add'
      have hcnt : (C2 ++ tz_gl D).length + q + (tz_pd add' sca' F.length).length ≤ t' + 1 := by
        rw [hpl', List.length_append, hC2]
        rcases hcase with ⟨g1, g2, g3⟩ | ⟨g1, g2, g3⟩
        · rw [if_neg g1, g2, hl2]
          omega
        · rw [if_pos g1, hl3, hl2]
          omega
      have hck' : tz_ck C2 = some ((if sca' = 0 then [] else [false]) ++ (if add' = 0 then [] else [false]) ++ st) := by
        rw [hC2]
        rcases hcase with ⟨g1, g2, g3⟩ | ⟨g1, g2, g3⟩
        · rw [if_neg g1, if_neg g1, g2]
          exact hck2
        · rw [if_pos g1, if_pos g1, if_neg g2]
          exact hck3
      have hmc' : tz_mc kd C2 := by
        rw [hC2]
        split
        · exact tz_fs_mc hsa (tz_fs_mc hss mc1)
        · exact tz_fs_mc hss mc1
      obtain ⟨id, hid⟩ : ∃ id : MI, id = px_up ic 58 9 ((t' + 1 : Nat) : Int) := ⟨_, rfl⟩
      have qd : tz_cq ic id := by
        rw [hid]
        exact tz_cq_8 (by omega)
      have cd : tz_cm K U PL m kd (t' + 1) o (C2 ++ tz_gl D) id := tz_cm_8 cc (fun k' hk' => by rw [hid, ty_up_row hk']) (by rw [hid, ty_up_j (by decide)]) (by rw [hid, ty_up_j (by decide)]; exact cc.2.2.1.1) (by rw [hid, ty_up_eq]) (by rw [hid, ty_up_j (by decide)]; exact cc.2.2.1.2.2)
      obtain ⟨i1, r1, q1, o1⟩ := HS L tt r hr dp e id l (t' + 1) o F W C2 st q add' sca' (x3 + 1) (vI (K t')) (px_nl_I _) hsg' (by omega) (by omega) he cd (by omega) hcnt ⟨hbt, ⟨f1, f2, f3, f4⟩, f5⟩ hF hck' hst hmc'
      refine ⟨i1, ?_, tz_cq_tr qc (tz_cq_tr qd q1), ?_⟩
      · rw [b105_124 hr, cc.2.2.1.2.1, show px_w32 ((t' : Int) + 1) = ((t' + 1 : Nat) : Int) by rw [ty_w (by omega)]; omega, show px_w32 (x3 + 1) = x3 + 1 from ty_w (by omega), ← hid]
        exact r1
      · rcases o1 with ⟨t'', W2, C3, C4, ⟨a1, a2⟩, a3, a4, a5⟩ | g
        · exact Or.inl ⟨t'', W2, C3, C4, ⟨by omega, a2⟩, a3, tz_to_tr to1 (tz_to_tr hto a4), a5⟩
        · exact Or.inr (tz_bad_s to1 (tz_bad_s hto g))
    rw [r24, b105_40 hr _ _ _ _ _ _ hn4, h33, Option.bind_some, px_psh_some, b105_51 hr _ _ _ _ _ _ hn4]
    have qab := tz_cq_tr qa qb
    have mul : (K t' = 12 ∨ K t' = 13) → ∃ i1 : MI, px_X (dp + 2 * e + 3 + 1) 105 (67, [vR 58, vI add, vI sca, vI x3, vI (K t')], []) (px_sh L, ib, l, r, tt) = some (none, (px_sh L, i1, l, r, tt)) ∧ tz_cq i i1 ∧
          (tz_sgd K U PL m (t, o, F, tz_pd add sca F.length ++ W, 1, C, D, kd) t o F W D kd st q i1 ∨ tz_bad K U PL m (t, o, F, tz_pd add sca F.length ++ W, 1, C, D, kd) i1) := fun hkk => by
      have hne : ¬ K t' = 0 := by omega
      rw [b105_67 hr, b105_73 hr, if_neg hne, if_neg hne]
      refine next ib add (K t') ?_ qab (by omega) ⟨hsg.1, by omega⟩ (Or.inl ⟨hne, rfl, rfl⟩)
      rw [if_neg hne]
      exact cb
    by_cases k12 : K t' = 12
    · rw [if_pos k12]
      exact mul (Or.inl k12)
    · rw [if_neg k12]
      by_cases k13 : K t' = 13
      · rw [if_pos k13]
        exact mul (Or.inr k13)
      · rw [if_neg k13, b105_73 hr, if_pos rfl]
        obtain ⟨ic, rc, cc, qc⟩ := tz_135f (L := L) (r := r) (tt := tt) hr (dp + 2 * e + 3) ib l add (tz_fs sca C') cb (by rw [List.length_append, hl2]; omega) (by omega)
        have r94 : (if add = 0 then px_X (dp + 2 * e + 3 + 1) 105 (94, [vR 58, vI add, vI 0, vI x3, vI (K t')], []) (px_sh L, ib, l, r, tt) else (px_C (dp + 2 * e + 3) 135 [vR 59, vI (px_w32 (10000 + add))] (px_sh L, ib, l, r, tt)).bind (fun q => px_X (dp + 2 * e + 3 + 1) 105 (px_psh (94, [vR 58, vI add, vI 0, vI x3, vI (K t')], []) q.1) q.2)) = px_X (dp + 2 * e + 3 + 1) 105 (94, [vR 58, vI add, vI 0, vI x3, vI (K t')], []) (px_sh L, ic, l, r, tt) := by
          by_cases h0 : add = 0
          · rw [if_pos h0] at rc ⊢
            have := Option.some.inj rc
            have ei : ib = ic := congrArg (fun q => q.2.2.1) this
            rw [ei]
          · rw [if_neg h0] at rc ⊢
            rw [rc, Option.bind_some, px_psh_none]
        have qac := tz_cq_tr qab qc
        have plus : (K t' = 10 ∨ K t' = 11) → ∃ i1 : MI, px_X (dp + 2 * e + 3 + 1) 105 (108, [vR 58, vI add, vI 0, vI x3, vI (K t')], []) (px_sh L, ic, l, r, tt) = some (none, (px_sh L, i1, l, r, tt)) ∧ tz_cq i i1 ∧
          (tz_sgd K U PL m (t, o, F, tz_pd add sca F.length ++ W, 1, C, D, kd) t o F W D kd st q i1 ∨ tz_bad K U PL m (t, o, F, tz_pd add sca F.length ++ W, 1, C, D, kd) i1) := fun hkk => by
          have hne : ¬ K t' = 0 := by omega
          rw [b105_108 hr, b105_114 hr, if_pos rfl, if_neg hne]
          refine next ic (K t') 0 ?_ qac (by omega) ⟨by omega, Or.inl rfl⟩ (Or.inr ⟨rfl, hne, rfl⟩)
          rw [if_pos rfl]
          exact cc
        rw [r94, b105_94 hr]
        by_cases k10 : K t' = 10
        · rw [if_pos k10]
          exact plus (Or.inl k10)
        · rw [if_neg k10]
          by_cases k11 : K t' = 11
          · rw [if_pos k11]
            exact plus (Or.inr k11)
          · rw [if_neg k11, b105_114 hr, if_pos rfl, if_pos rfl]
            refine ⟨ic, rfl, qac, Or.inl ⟨t', tz_pd add sca F.length ++ W, C', tz_fs add (tz_fs sca C'), ⟨t1, t2⟩, cc, to1, ⟨fun rk hrk => tz_wk_3 hsg hrk f5, by rw [hW1]; omega, ?_⟩, by omega, ?_, hck3, tz_fs_mc hsa (tz_fs_mc hss mc1)⟩⟩
            · rw [hl3, hl2]
              omega
            · rw [List.length_append, hl3, hl2]
              omega
  · obtain ⟨i1, r1, e1, q1⟩ := tz_sum_te (L := L) (r := r) (tt := tt) hr (dp + 2 * e + 3) ia l add sca x3 hn4 f (PL t') er1
    exact ⟨i1, r1, tz_cq_tr qa q1, Or.inr ⟨f, t', e1, to1⟩⟩
theorem tz_sum (hK : tz_tk K U m) (hD : D.length < 10) : ∀ k : Nat, tz_SP K U PL m D kd k
  | 0 => fun L tt r hr dp e i l t o F W C st q add sca x3 v4 hn4 hsg hx3 hk he h ht => by omega
  | k + 1 => tz_sum_s hK hD k (tz_sum hK hD k)
end TYCS
