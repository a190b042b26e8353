/-! text: readEither. -/
section TYCF
variable {L tt : Nat} {r : MR} {K U PL : Nat → Int} {m : Nat} {D : List (Int × List Int)} {kd : Int}
/-- asks read -/
def tz_eg (K U PL : Nat → Int) (m : Nat) (A : tz_RS) (t : Nat) (D : List (Int × List Int)) (kd : Int) (i1 : MI) : Prop :=
  ∃ (t' : Nat) (W2 : List (Int × Nat)) (C2 C1 : List Int), (t < t' ∧ t' ≤ m) ∧ tz_cm K U PL m kd t' 0 (C1 ++ tz_gl D) i1 ∧ tz_to K U m A (.inr (t', 0, [(2, 0)], W2, 3, C2, D, kd)) ∧ (tz_wk 1 1 W2 C2 = ([], C1) ∧ W2.length ≤ 2 ∧ C2.length ≤ C1.length) ∧ ¬ (K t' = 30 ∨ K t' = 31) ∧ (C1 ++ tz_gl D).length ≤ t' ∧ tz_ck C1 = some [true] ∧ tz_mc kd C1
theorem tz_eit_te (hr : px_hr r) (d : Nat) (i l : MI) (x1 x2 x3 : Int) (e p : Int) (h : tz_er e p i) : ∃ i1 : MI, px_X (d + 1) 103 (24, [vR 58, vI x1, vI x2, vI x3], []) (px_sh L, i, l, r, tt) = some (none, (px_sh L, i1, l, r, tt)) ∧ tz_er e p i1 ∧ tz_cq i i1 := by
  have s109 : ∀ (i : MI) (x1 x2 : Int), tz_er e p i → ∃ i1 : MI, px_X (d + 1) 103 (109, [vR 58, vI x1, vI x2, vI x3], []) (px_sh L, i, l, r, tt) = some (none, (px_sh L, i1, l, r, tt)) ∧ tz_er e p i1 ∧ tz_cq i i1 := fun i x1 x2 h => by
    have h2 : tz_er e p (px_up i 58 9 (px_w32 (i 58 9 + 1))) := tz_er_8 h (by decide) (by decide)
    refine ⟨px_up i 58 9 (px_w32 (i 58 9 + 1)), ?_, h2, tz_cq_8 (by omega)⟩
    rw [b103_109 hr, b103_6 hr]
    by_cases h3 : 300 < px_w32 (x3 + 1)
    · rw [if_pos h3]
    · rw [if_neg h3, if_neg (fun g => h2.2.2 (h2.1.symm.trans g))]
  have s78 : ∀ (i : MI) (x1 x2 : Int), tz_er e p i → ∃ i1 : MI, px_X (d + 1) 103 (78, [vR 58, vI x1, vI x2, vI x3], []) (px_sh L, i, l, r, tt) = some (none, (px_sh L, i1, l, r, tt)) ∧ tz_er e p i1 ∧ tz_cq i i1 := fun i x1 x2 h => by
    have s99 : ∀ x5 : Int, ∃ i1 : MI, px_X (d + 1) 103 (99, [vR 58, vI x1, vI x2, vI x3], [vI x5]) (px_sh L, i, l, r, tt) = some (none, (px_sh L, i1, l, r, tt)) ∧ tz_er e p i1 ∧ tz_cq i i1 := fun x5 => by
      rw [b103_99 hr]
      by_cases h2 : x2 = 0
      · rw [if_pos h2]
        by_cases h5 : x5 = 0
        · rw [if_pos h5]
          exact ⟨i, rfl, h, tz_cq_rf⟩
        · rw [if_neg h5]
          exact s109 i x5 x2 h
      · rw [if_neg h2]
        exact s109 i x5 x2 h
    obtain ⟨v, hv⟩ := tz_33k (L := L) (r := r) (tt := tt) hr d i l (i 58 9)
    rw [b103_78 hr, hv, Option.bind_some, px_psh_some, b103_89 hr]
    by_cases h1 : v = 30
    · rw [if_pos h1]
      exact s99 1
    · rw [if_neg h1]
      exact s99 0
  have s38 : ∀ (i : MI), tz_er e p i → ∃ i1 : MI, px_X (d + 1) 103 (38, [vR 58, vI x1, vI x2, vI x3], []) (px_sh L, i, l, r, tt) = some (none, (px_sh L, i1, l, r, tt)) ∧ tz_er e p i1 ∧ tz_cq i i1 := fun i h => by
    have s59 : ∀ x5 : Int, ∃ i1 : MI, px_X (d + 1) 103 (59, [vR 58, vI x1, vI x2, vI x3], [vI x5]) (px_sh L, i, l, r, tt) = some (none, (px_sh L, i1, l, r, tt)) ∧ tz_er e p i1 ∧ tz_cq i i1 := fun x5 => by
      rw [b103_59 hr]
      by_cases h5 : x5 = 0
      · rw [if_pos h5]
        by_cases h1 : x1 = 0
        · rw [if_pos h1]
          exact s78 i x1 x5 h
        · obtain ⟨ia, ra, ea, qa⟩ := tz_135e (L := L) (r := r) (tt := tt) hr d i l 10030 e p h
          rw [if_neg h1, ra, Option.bind_some, px_psh_none]
          obtain ⟨ib, rb, eb, qb⟩ := s78 ia x1 x5 ea
          exact ⟨ib, rb, eb, tz_cq_tr qa qb⟩
      · rw [if_neg h5, if_neg h5]
        exact s109 i x1 x5 h
    obtain ⟨v, hv⟩ := tz_33k (L := L) (r := r) (tt := tt) hr d i l (i 58 9)
    rw [b103_38 hr, hv, Option.bind_some, px_psh_some, b103_49 hr]
    by_cases h1 : v = 31
    · rw [if_pos h1]
      exact s59 1
    · rw [if_neg h1]
      exact s59 0
  rw [b103_24 hr]
  by_cases h2 : x2 = 0
  · rw [if_pos h2]
    exact s38 i h
  · obtain ⟨ia, ra, ea, qa⟩ := tz_135e (L := L) (r := r) (tt := tt) hr d i l 10031 e p h
    rw [if_neg h2, ra, Option.bind_some, px_psh_none]
    obtain ⟨ib, rb, eb, qb⟩ := s38 ia ea
    exact ⟨ib, rb, eb, tz_cq_tr qa qb⟩
theorem tz_eit_n (hr : px_hr r) (hK : tz_tk K U m) (hD : D.length < 10) (dp : Nat) (l : MI) : ∀ (k : Nat) (i : MI) (t : Nat) (e b x3 : Int) (C : List Int), m + 1 ≤ t + k → (e = 0 ∨ e = 1) → (b = 0 ∨ b = 1) → 0 ≤ x3 ∧ x3 ≤ (t : Int) → tz_cm K U PL m kd t 0 (C ++ tz_gl D) i → t ≤ m → (C ++ tz_gl D).length + (tz_pe e b).length ≤ t → tz_ck C = some ((if b = 0 then [] else [true]) ++ (if e = 0 then [] else [true])) → tz_mc kd C →
    ∃ i1 : MI, px_X (dp + 21 + 1) 103 (6, [vR 58, vI e, vI b, vI x3], []) (px_sh L, i, l, r, tt) = some (none, (px_sh L, i1, l, r, tt)) ∧ tz_cq i i1 ∧
      (tz_eg K U PL m (t, 0, [(2, 0)], tz_pe e b, 0, C, D, kd) t D kd i1 ∨ tz_bad K U PL m (t, 0, [(2, 0)], tz_pe e b, 0, C, D, kd) i1)
  | 0, i, t, e, b, x3, C, hk, he, hb, hx, h, ht, hl, hck, hc => by omega
  | k + 1, i, t, e, b, x3, C, hk, he, hb, hx, h, ht, hl, hck, hc => by
    have hm := hK.1
    have hpl := tz_pe_len e b
    have hnb := tz_n1_b b
    have hne := tz_n1_b e
    have hst : ((if b = 0 then ([] : List Bool) else [true]) ++ (if e = 0 then [] else [true])).length ≤ 2 := by
      rw [List.length_append]
      have e1 : (if b = 0 then ([] : List Bool) else [true]).length ≤ 1 := by
        split
        · exact Nat.zero_le _
        · exact Nat.le_refl _
      have e2 : (if e = 0 then ([] : List Bool) else [true]).length ≤ 1 := by
        split
        · exact Nat.zero_le _
        · exact Nat.le_refl _
      omega
    obtain ⟨ia, ra, qa, oa⟩ := tz_ask (L := L) (r := r) (tt := tt) hr hK hD dp i l t (tz_pe e b) C _ (tz_pe e b).length (by omega) (tz_pe_hd e b) hck hst hc h ht hl
    rw [b103_6 hr, if_neg (by omega), if_pos h.2.2.1.1, ra, Option.bind_some, px_psh_none]
    rcases oa with ⟨t', C', ⟨t1, t2⟩, c1, to1, len1, ck1, mc1⟩ | ⟨f, t', er1, to1⟩
    · have hk0 := hK.2.1 t' t2
      have hl1 := len1
      rw [List.length_append, hpl] at hl1
      have hlb := tz_ge_len 10031 b C'
      have hle := tz_ge_len 10030 e (tz_ge 10031 b C')
      have hckb : tz_ck (tz_ge 10031 b C') = some (true :: ((if e = 0 then [] else [true]) ++ [])) := tz_ge_ck (Or.inr rfl) (by rw [ck1, List.append_nil])
      have hcke : tz_ck (tz_ge 10030 e (tz_ge 10031 b C')) = some (true :: []) := tz_ge_ck (Or.inl rfl) hckb
      rw [List.append_nil] at hckb
      have hmcb : tz_mc kd (tz_ge 10031 b C') := tz_ge_mc (by omega) mc1
      have hmce : tz_mc kd (tz_ge 10030 e (tz_ge 10031 b C')) := tz_ge_mc (by omega) hmcb
      obtain ⟨ib, rb, cb, qb⟩ := tz_135g (L := L) (r := r) (tt := tt) hr (dp + 21) ia l b 10031 C' c1 (by rw [List.length_append]; omega)
      have r24 : px_X (dp + 21 + 1) 103 (24, [vR 58, vI e, vI b, vI x3], []) (px_sh L, ia, l, r, tt) = px_X (dp + 21 + 1) 103 (38, [vR 58, vI e, vI b, vI x3], []) (px_sh L, ib, l, r, tt) := by
        rw [b103_24 hr]
        by_cases h0 : b = 0
        · rw [if_pos h0] at rb ⊢
          have := Option.some.inj rb
          have ei : ia = ib := congrArg (fun q => q.2.2.1) this
          rw [ei]
        · rw [if_neg h0] at rb ⊢
          rw [rb, Option.bind_some, px_psh_none]
      have hbtm : tz_bt [((2 : Int), (0 : Int))] := Or.inl (Or.inr rfl)
      have hF1 : [((2 : Int), (0 : Int))].length = 1 := rfl
      have hbd : tz_bd m (t', 0, [(2, 0)], tz_pe e b, 3, C', D, kd) := tz_bd_mk 3 (by omega) t2 (by omega) (by rw [hF1]; omega) (by rw [hF1]; omega) (by rw [List.length_append]; omega) hD hbtm
      have hn4 : ¬ ((t', (0 : Int), [((2 : Int), (0 : Int))], tz_pe e b, (3 : Int), C', D, kd).2.2.2.2.1 = 4 ∧ K (t', (0 : Int), [((2 : Int), (0 : Int))], tz_pe e b, (3 : Int), C', D, kd).1 = 0) := fun g => absurd g.1 (show ¬ (3 : Int) = 4 by omega)
      have hstp : tz_stp K U (t', 0, [(2, 0)], tz_pe e b, 3, C', D, kd) = tz_s3 K t' 0 [(2, 0)] (tz_pe e b) C' D kd := rfl
      have qab := tz_cq_tr qa qb
      have next : ∀ (ic : MI) (e' b' : Int) (C2 : List Int), tz_cm K U PL m kd t' 0 (C2 ++ tz_gl D) ic → tz_cq i ic → (K t' = 31 ∧ e' = e ∧ b' = 1 ∧ C2 = tz_ge 10031 b C' ∨ K t' = 30 ∧ e' = 1 ∧ b' = 0 ∧ C2 = tz_ge 10030 e (tz_ge 10031 b C')) →
          ∃ i1 : MI, px_X (dp + 21 + 1) 103 (109, [vR 58, vI e', vI b', vI x3], []) (px_sh L, ic, l, r, tt) = some (none, (px_sh L, i1, l, r, tt)) ∧ tz_cq i i1 ∧
            (tz_eg K U PL m (t, 0, [(2, 0)], tz_pe e b, 0, C, D, kd) t D kd i1 ∨ tz_bad K U PL m (t, 0, [(2, 0)], tz_pe e b, 0, C, D, kd) i1) := fun ic e' b' C2 cc qc hcase => by
        have htm : t' < m := by omega
        have hto : tz_to K U m (t', 0, [(2, 0)], tz_pe e b, 3, C', D, kd) (.inr (t' + 1, 0, [(2, 0)], tz_pe e' b', 0, C2, D, kd)) := tz_to_s hbd hn4 (by
          rw [hstp]
          unfold tz_s3 tz_wf
          rw [if_pos (by omega), hF1]
          rcases hcase with ⟨g1, g2, g3, g4⟩ | ⟨g1, g2, g3, g4⟩
          · have er : tz_rk (K t') = 2 := by rw [g1]; rfl
            rw [er, tz_wk_e2, g1, g2, g3, g4]
            rfl
          · have er : tz_rk (K t') = 1 := by rw [g1]; rfl
            rw [er, tz_wk_e1, g1, g2, g3, g4]
            rfl) tz_to_rf
        have hpl' := tz_pe_len e' b'
        have hnb' := tz_n1_b b'
        have hne' := tz_n1_b e'
        obtain ⟨id, hid⟩ : ∃ id : MI, id = px_up ic 58 9 ((t' + 1 : Nat) : Int) := ⟨_, rfl⟩
        have qd : tz_cq ic id := by
          rw [hid]
          exact tz_cq_8 (by omega)
        have cd : tz_cm K U PL m kd (t' + 1) 0 (C2 ++ tz_gl D) id := tz_cm_8 cc (fun k' hk' => by rw [hid, ty_up_row hk']) (by rw [hid, ty_up_j (by decide)]) (by rw [hid, ty_up_j (by decide)]; exact cc.2.2.1.1) (by rw [hid, ty_up_eq]) (by rw [hid, ty_up_j (by decide)]; exact cc.2.2.1.2.2)
        obtain ⟨i1, r1, q1, o1⟩ := tz_eit_n hr hK hD dp l k id (t' + 1) e' b' (x3 + 1) C2 (by omega) (by omega) (by omega) (by omega) cd (by omega) (by
          rw [List.length_append, hpl']
          rcases hcase with ⟨g1, g2, g3, g4⟩ | ⟨g1, g2, g3, g4⟩
          · rw [g4, g2, hlb]
            omega
          · rw [g4, hle, hlb]
            omega) (by
          rcases hcase with ⟨g1, g2, g3, g4⟩ | ⟨g1, g2, g3, g4⟩
          · rw [g4, g2, g3, hckb]
            rfl
          · rw [g4, g2, g3, hcke]
            rfl) (by
          rcases hcase with ⟨g1, g2, g3, g4⟩ | ⟨g1, g2, g3, g4⟩
          · rw [g4]
            exact hmcb
          · rw [g4]
            exact hmce)
        refine ⟨i1, ?_, tz_cq_tr qc (tz_cq_tr qd q1), ?_⟩
        · rw [b103_109 hr, cc.2.2.1.2.1, show px_w32 ((t' : Int) + 1) = ((t' + 1 : Nat) : Int) by rw [ty_w (by omega)]; omega, show px_w32 (x3 + 1) = x3 + 1 from ty_w (by omega), ← hid]
          exact r1
        · rcases o1 with ⟨t'', W2, C3, C4, ⟨a1, a2⟩, a3, a4, a5⟩ | g
          · exact Or.inl ⟨t'', W2, C3, C4, ⟨by omega, a2⟩, a3, tz_to_tr to1 (tz_to_tr hto a4), a5⟩
          · exact Or.inr (tz_bad_s to1 (tz_bad_s hto g))
      have h33 := tz_33 (L := L) (r := r) (tt := tt) hr (dp + 21) ib l cb t2 hm
      rw [r24, b103_38 hr, h33, Option.bind_some, px_psh_some, b103_49 hr]
      by_cases k31 : K t' = 31
      · rw [if_pos k31, b103_59 hr, if_neg (by omega), if_neg (by omega)]
        exact next ib e 1 _ cb qab (Or.inl ⟨k31, rfl, rfl, rfl⟩)
      · rw [if_neg k31, b103_59 hr, if_pos rfl]
        obtain ⟨ic, rc, cc, qc⟩ := tz_135g (L := L) (r := r) (tt := tt) hr (dp + 21) ib l e 10030 (tz_ge 10031 b C') cb (by rw [List.length_append]; omega)
        have r78 : (if e = 0 then px_X (dp + 21 + 1) 103 (78, [vR 58, vI e, vI 0, vI x3], []) (px_sh L, ib, l, r, tt) else (px_C (dp + 21) 135 [vR 59, vI 10030] (px_sh L, ib, l, r, tt)).bind (fun q => px_X (dp + 21 + 1) 103 (px_psh (78, [vR 58, vI e, vI 0, vI x3], []) q.1) q.2)) = px_X (dp + 21 + 1) 103 (78, [vR 58, vI e, vI 0, vI x3], []) (px_sh L, ic, l, r, tt) := by
          by_cases h0 : e = 0
          · rw [if_pos h0] at rc ⊢
            have := Option.some.inj rc
            have ei : ib = ic := congrArg (fun q => q.2.2.1) this
            rw [ei]
          · rw [if_neg h0] at rc ⊢
            rw [rc, Option.bind_some, px_psh_none]
        have qac := tz_cq_tr qab qc
        have h33c := tz_33 (L := L) (r := r) (tt := tt) hr (dp + 21) ic l cc t2 hm
        rw [r78, b103_78 hr, h33c, Option.bind_some, px_psh_some, b103_89 hr]
        by_cases k30 : K t' = 30
        · rw [if_pos k30, b103_99 hr, if_pos rfl, if_neg (by omega)]
          exact next ic 1 0 _ cc qac (Or.inr ⟨k30, rfl, rfl, rfl⟩)
        · rw [if_neg k30, b103_99 hr, if_pos rfl, if_pos rfl]
          refine ⟨ic, rfl, qac, Or.inl ⟨t', tz_pe e b, C', _, ⟨t1, t2⟩, cc, to1, ⟨tz_wk_e1 e b C', by omega, by omega⟩, by omega, ?_, hcke, hmce⟩⟩
          rw [List.length_append, hle, hlb]
          omega
    · obtain ⟨i1, r1, e1, q1⟩ := tz_eit_te (L := L) (r := r) (tt := tt) hr (dp + 21) ia l e b x3 f (PL t') er1
      exact ⟨i1, r1, tz_cq_tr qa q1, Or.inr ⟨f, t', e1, to1⟩⟩
theorem tz_eit (hr : px_hr r) (hK : tz_tk K U m) (hD : D.length < 10) (dp : Nat) (i l : MI) (t : Nat) (h : tz_cm K U PL m kd t 0 (tz_gl D) i) (ht : t ≤ m) (hl : (tz_gl D).length ≤ t) :
    ∃ i1 : MI, px_C (dp + 22) 103 [vR 58] (px_sh L, i, l, r, tt) = some (none, (px_sh L, i1, l, r, tt)) ∧ tz_cq i i1 ∧ (tz_eg K U PL m (t, 0, [(2, 0)], [], 0, [], D, kd) t D kd i1 ∨ tz_bad K U PL m (t, 0, [(2, 0)], [], 0, [], D, kd) i1) := by
  obtain ⟨i1, r1, q1, o1⟩ := tz_eit_n (L := L) (r := r) (tt := tt) (PL := PL) (kd := kd) hr hK hD dp l (m + 1) i t 0 0 0 [] (by omega) (Or.inl rfl) (Or.inl rfl) (by omega) h ht (by
    rw [tz_pe_len, (tz_n1_b 0).2.1 rfl]
    show (tz_gl D).length + (0 + 0) ≤ t
    omega) rfl (fun c hc => by cases hc)
  refine ⟨i1, ?_, q1, o1⟩
  rw [e103, b103_0 hr]
  exact r1
end TYCF
