/-! The pure machine without fuel: what a frame comes to, and an equation for each instruction. -/
theorem px_run_more : ∀ (n k d m : Nat) (f : FR) (s : PM) (r : Option PV × PM), px_run n d m f s = some r → px_run (n + k) d m f s = some r
  | 0, _, _, _, _, _, _, h => by cases h
  | n + 1, k, d, m, f, s, r, h => by
    rw [Nat.add_right_comm]
    unfold px_run at h ⊢
    split at h
    · cases h
    · rename_i f1 s1 hs
      exact px_run_more n k d m f1 s1 r h
    · exact h
    · rename_i m' as f1 s1 hs
      split at h
      · cases h
      · rename_i d'
        split at h
        · cases h
        · rename_i v s2 hr
          rw [px_run_more n k d' m' _ s1 _ hr]
          exact px_run_more n k (d' + 1) m _ s2 r h
theorem px_run_det {n n' d m : Nat} {f : FR} {s : PM} {r r' : Option PV × PM} (h : px_run n d m f s = some r) (h' : px_run n' d m f s = some r') : r = r' := by
  have h1 := px_run_more n n' d m f s r h
  have h2 := px_run_more n' n d m f s r' h'
  rw [Nat.add_comm] at h2
  exact Option.some.inj (h1.symm.trans h2)
noncomputable def px_X (d m : Nat) (f : FR) (s : PM) : Option (Option PV × PM) :=
  @dite _ (∃ r, ∃ n, px_run n d m f s = some r) (Classical.propDecidable _) (fun h => some (Classical.choose h)) (fun _ => none)
theorem px_X_iff {d m : Nat} {f : FR} {s : PM} {r : Option PV × PM} : px_X d m f s = some r ↔ ∃ n, px_run n d m f s = some r := by
  unfold px_X
  by_cases h : ∃ r, ∃ n, px_run n d m f s = some r
  · rw [dif_pos h]
    obtain ⟨n, hn⟩ := Classical.choose_spec h
    constructor
    · intro hr
      exact ⟨n, by rw [hn, Option.some.inj hr]⟩
    · rintro ⟨n', hn'⟩
      rw [px_run_det hn hn']
  · rw [dif_neg h]
    constructor
    · intro hr; cases hr
    · rintro ⟨n, hn⟩; exact absurd ⟨r, n, hn⟩ h
theorem px_X_ext {d m : Nat} {f f' : FR} {s s' : PM} (h : ∀ r, (∃ n, px_run n d m f s = some r) ↔ ∃ n, px_run n d m f' s' = some r) : px_X d m f s = px_X d m f' s' := by
  apply Option.ext
  intro r
  rw [px_X_iff, px_X_iff]
  exact h r
theorem px_X_step {d m : Nat} {f f' : FR} {s s' : PM} (h : px_stp m f s = some (.inl (f', s'))) : px_X d m f s = px_X d m f' s' := px_X_ext (fun r => by
  constructor
  · rintro ⟨n, hn⟩
    cases n with
    | zero => cases hn
    | succ n =>
      unfold px_run at hn
      rw [h] at hn
      exact ⟨n, hn⟩
  · rintro ⟨n, hn⟩
    refine ⟨n + 1, ?_⟩
    unfold px_run
    rw [h]
    exact hn)
theorem px_X_ret {d m : Nat} {f : FR} {s : PM} {r : Option PV × PM} (h : px_stp m f s = some (.inr (.inl r))) : px_X d m f s = some r := px_X_iff.mpr ⟨1, by unfold px_run; rw [h]⟩
/-- a method at its arguments -/
noncomputable def px_C (d m : Nat) (as : List PV) (s : PM) : Option (Option PV × PM) := px_X d m (px_ent m as) s
theorem px_X_call {d m m' : Nat} {as : List PV} {f f' : FR} {s s' s2 : PM} {v : Option PV} (h : px_stp m f s = some (.inr (.inr (m', as, f', s')))) (hc : px_C d m' as s' = some (v, s2)) : px_X (d + 1) m f s = px_X (d + 1) m (px_psh f' v) s2 := px_X_ext (fun r => by
  obtain ⟨n0, h0⟩ := px_X_iff.mp hc
  constructor
  · rintro ⟨n, hn⟩
    cases n with
    | zero => cases hn
    | succ n =>
      unfold px_run at hn
      rw [h] at hn
      dsimp only at hn
      cases hr : px_run n d m' (px_ent m' as) s' with
      | none => rw [hr] at hn; cases hn
      | some q =>
        rw [hr] at hn
        have := px_run_det hr h0
        subst this
        exact ⟨n, hn⟩
  · rintro ⟨n, hn⟩
    refine ⟨n0 + n + 1, ?_⟩
    unfold px_run
    rw [h]
    dsimp only
    rw [px_run_more n0 n d m' _ s' _ h0]
    dsimp only
    rw [Nat.add_comm n0 n]
    exact px_run_more n n0 (d + 1) m _ s2 r hn)
theorem px_stp_of {m pc : Nat} {e : PE} {ls st : List PV} {s : PM} {r : PRes} (k : px_cod m pc = some e) (h : px_ex m e pc ls st s = some r) : px_stp m (pc, ls, st) s = some r := by
  unfold px_stp
  dsimp only
  rw [k]
  exact h
section PXE
variable {d m pc : Nat} {ls st st' : List PV} {sh : List Sh} {i l : MI} {r : MR} {t : Nat}

theorem xs_ild {n : Nat} {z : Int} {x : Int} (k : px_cod m pc = some (.iload n, 2, [], z)) (h : ls[n]? = some (vI x)) : px_X d m (pc, ls, st) (sh, i, l, r, t) = px_X d m (pc + 2, ls, (vI x) :: st) (sh, i, l, r, t) := px_X_step (px_stp_of k (by unfold px_ex; try dsimp only; unfold px_ld; rw [h]; try rfl))
theorem xs_ildn {n : Fin 4} {z : Int} {x : Int} (k : px_cod m pc = some (.iload_n n, 1, [], z)) (h : ls[n.val]? = some (vI x)) : px_X d m (pc, ls, st) (sh, i, l, r, t) = px_X d m (pc + 1, ls, (vI x) :: st) (sh, i, l, r, t) := px_X_step (px_stp_of k (by unfold px_ex; try dsimp only; unfold px_ld; rw [h]; try rfl))
theorem xs_lld {n : Nat} {z : Int} {x : Int} (k : px_cod m pc = some (.lload n, 2, [], z)) (h : ls[n]? = some (vL x)) : px_X d m (pc, ls, st) (sh, i, l, r, t) = px_X d m (pc + 2, ls, (vL x) :: st) (sh, i, l, r, t) := px_X_step (px_stp_of k (by unfold px_ex; try dsimp only; unfold px_lld; rw [h]; try rfl))
theorem xs_lldn {n : Fin 4} {z : Int} {x : Int} (k : px_cod m pc = some (.lload_n n, 1, [], z)) (h : ls[n.val]? = some (vL x)) : px_X d m (pc, ls, st) (sh, i, l, r, t) = px_X d m (pc + 1, ls, (vL x) :: st) (sh, i, l, r, t) := px_X_step (px_stp_of k (by unfold px_ex; try dsimp only; unfold px_lld; rw [h]; try rfl))
theorem xs_ald {n : Nat} {z : Int} {x : Option Nat} (k : px_cod m pc = some (.aload n, 2, [], z)) (h : ls[n]? = some (.inr (.inr (.inl x)))) : px_X d m (pc, ls, st) (sh, i, l, r, t) = px_X d m (pc + 2, ls, (.inr (.inr (.inl x))) :: st) (sh, i, l, r, t) := px_X_step (px_stp_of k (by unfold px_ex; try dsimp only; unfold px_ald; rw [h]; try rfl))
theorem xs_aldn {n : Fin 4} {z : Int} {x : Option Nat} (k : px_cod m pc = some (.aload_n n, 1, [], z)) (h : ls[n.val]? = some (.inr (.inr (.inl x)))) : px_X d m (pc, ls, st) (sh, i, l, r, t) = px_X d m (pc + 1, ls, (.inr (.inr (.inl x))) :: st) (sh, i, l, r, t) := px_X_step (px_stp_of k (by unfold px_ex; try dsimp only; unfold px_ald; rw [h]; try rfl))
theorem xs_ist {n : Nat} {z : Int} {x : Int} {ls' : List PV} (k : px_cod m pc = some (.istore n, 2, [], z)) (h0 : n < ls.length) (h : px_st1 ls n (vI x) = ls') : px_X d m (pc, ls, (vI x) :: st) (sh, i, l, r, t) = px_X d m (pc + 2, ls', st) (sh, i, l, r, t) := px_X_step (px_stp_of k (by unfold px_ex; try dsimp only; unfold px_ist; try dsimp only; rw [if_pos h0, h]; try rfl))
theorem xs_istn {n : Fin 4} {z : Int} {x : Int} {ls' : List PV} (k : px_cod m pc = some (.istore_n n, 1, [], z)) (h0 : n.val < ls.length) (h : px_st1 ls n.val (vI x) = ls') : px_X d m (pc, ls, (vI x) :: st) (sh, i, l, r, t) = px_X d m (pc + 1, ls', st) (sh, i, l, r, t) := px_X_step (px_stp_of k (by unfold px_ex; try dsimp only; unfold px_ist; try dsimp only; rw [if_pos h0, h]; try rfl))
theorem xs_ast {n : Nat} {z : Int} {x : Option Nat} {ls' : List PV} (k : px_cod m pc = some (.astore n, 2, [], z)) (h0 : n < ls.length) (h : px_st1 ls n (.inr (.inr (.inl x))) = ls') : px_X d m (pc, ls, (.inr (.inr (.inl x))) :: st) (sh, i, l, r, t) = px_X d m (pc + 2, ls', st) (sh, i, l, r, t) := px_X_step (px_stp_of k (by unfold px_ex; try dsimp only; unfold px_ast; try dsimp only; rw [if_pos h0, h]; try rfl))
theorem xs_astn {n : Fin 4} {z : Int} {x : Option Nat} {ls' : List PV} (k : px_cod m pc = some (.astore_n n, 1, [], z)) (h0 : n.val < ls.length) (h : px_st1 ls n.val (.inr (.inr (.inl x))) = ls') : px_X d m (pc, ls, (.inr (.inr (.inl x))) :: st) (sh, i, l, r, t) = px_X d m (pc + 1, ls', st) (sh, i, l, r, t) := px_X_step (px_stp_of k (by unfold px_ex; try dsimp only; unfold px_ast; try dsimp only; rw [if_pos h0, h]; try rfl))
theorem xs_lst {n : Nat} {z : Int} {x : Int} {ls' : List PV} (k : px_cod m pc = some (.lstore n, 2, [], z)) (h0 : n + 1 < ls.length) (h : px_st2 ls n (vL x) = ls') : px_X d m (pc, ls, vL x :: st) (sh, i, l, r, t) = px_X d m (pc + 2, ls', st) (sh, i, l, r, t) := px_X_step (px_stp_of k (by unfold px_ex; try dsimp only; unfold px_lst; try dsimp only; rw [if_pos h0, h]; try rfl))
theorem xs_lstn {n : Fin 4} {z : Int} {x : Int} {ls' : List PV} (k : px_cod m pc = some (.lstore_n n, 1, [], z)) (h0 : n.val + 1 < ls.length) (h : px_st2 ls n.val (vL x) = ls') : px_X d m (pc, ls, vL x :: st) (sh, i, l, r, t) = px_X d m (pc + 1, ls', st) (sh, i, l, r, t) := px_X_step (px_stp_of k (by unfold px_ex; try dsimp only; unfold px_lst; try dsimp only; rw [if_pos h0, h]; try rfl))
theorem xs_iinc {n n' : Nat} {v z x : Int} {ls' : List PV} (k : px_cod m pc = some (.iinc n v, 3, [n'], z)) (hx : ls[n]? = some (vI x)) (h0 : -128 ≤ v ∧ v < 128) (h : px_st1 ls n (vI (px_w32 (x + v))) = ls') : px_X d m (pc, ls, st) (sh, i, l, r, t) = px_X d m (pc + 3, ls', st) (sh, i, l, r, t) := px_X_step (px_stp_of k (by unfold px_ex; try dsimp only; rw [hx]; try dsimp only; rw [if_pos h0, h]; try rfl))
theorem xs_ic {v z : Int} (k : px_cod m pc = some (.iconst v, 1, [], z)) (h : -1 ≤ v ∧ v ≤ 5) : px_X d m (pc, ls, st) (sh, i, l, r, t) = px_X d m (pc + 1, ls, vI v :: st) (sh, i, l, r, t) := px_X_step (px_stp_of k (by unfold px_ex; try dsimp only; rw [if_pos h]; try rfl))
theorem xs_bi {v z : Int} (k : px_cod m pc = some (.bipush v, 2, [], z)) (h : -128 ≤ v ∧ v < 128) : px_X d m (pc, ls, st) (sh, i, l, r, t) = px_X d m (pc + 2, ls, vI v :: st) (sh, i, l, r, t) := px_X_step (px_stp_of k (by unfold px_ex; try dsimp only; rw [if_pos h]; try rfl))
theorem xs_si {v z : Int} (k : px_cod m pc = some (.sipush v, 3, [], z)) (h : -32768 ≤ v ∧ v < 32768) : px_X d m (pc, ls, st) (sh, i, l, r, t) = px_X d m (pc + 3, ls, vI v :: st) (sh, i, l, r, t) := px_X_step (px_stp_of k (by unfold px_ex; try dsimp only; rw [if_pos h]; try rfl))
theorem xs_lc0 {z : Int} (k : px_cod m pc = some (.lconst 0, 1, [], z))  : px_X d m (pc, ls, st) (sh, i, l, r, t) = px_X d m (pc + 1, ls, vL 0 :: st) (sh, i, l, r, t) := px_X_step (px_stp_of k (rfl))
theorem xs_lc1 {z : Int} (k : px_cod m pc = some (.lconst 1, 1, [], z))  : px_X d m (pc, ls, st) (sh, i, l, r, t) = px_X d m (pc + 1, ls, vL 1 :: st) (sh, i, l, r, t) := px_X_step (px_stp_of k (rfl))
theorem xs_null {z : Int} (k : px_cod m pc = some (.aconst_null, 1, [], z))  : px_X d m (pc, ls, st) (sh, i, l, r, t) = px_X d m (pc + 1, ls, vN :: st) (sh, i, l, r, t) := px_X_step (px_stp_of k (rfl))
theorem xs_iadd {x y z : Int} (k : px_cod m pc = some (.iadd, 1, [], z))  : px_X d m (pc, ls, vI y :: vI x :: st) (sh, i, l, r, t) = px_X d m (pc + 1, ls, vI (px_w32 (x + y)) :: st) (sh, i, l, r, t) := px_X_step (px_stp_of k (rfl))
theorem xs_isub {x y z : Int} (k : px_cod m pc = some (.isub, 1, [], z))  : px_X d m (pc, ls, vI y :: vI x :: st) (sh, i, l, r, t) = px_X d m (pc + 1, ls, vI (px_w32 (x - y)) :: st) (sh, i, l, r, t) := px_X_step (px_stp_of k (rfl))
theorem xs_imul {x y z : Int} (k : px_cod m pc = some (.imul, 1, [], z))  : px_X d m (pc, ls, vI y :: vI x :: st) (sh, i, l, r, t) = px_X d m (pc + 1, ls, vI (px_w32 (x * y)) :: st) (sh, i, l, r, t) := px_X_step (px_stp_of k (rfl))
theorem xs_iand {x y z : Int} (k : px_cod m pc = some (.iand, 1, [], z))  : px_X d m (pc, ls, vI y :: vI x :: st) (sh, i, l, r, t) = px_X d m (pc + 1, ls, vI (px_and x y) :: st) (sh, i, l, r, t) := px_X_step (px_stp_of k (rfl))
theorem xs_ior {x y z : Int} (k : px_cod m pc = some (.ior, 1, [], z))  : px_X d m (pc, ls, vI y :: vI x :: st) (sh, i, l, r, t) = px_X d m (pc + 1, ls, vI (px_or x y) :: st) (sh, i, l, r, t) := px_X_step (px_stp_of k (rfl))
theorem xs_ixor {x y z : Int} (k : px_cod m pc = some (.ixor, 1, [], z))  : px_X d m (pc, ls, vI y :: vI x :: st) (sh, i, l, r, t) = px_X d m (pc + 1, ls, vI (px_xor x y) :: st) (sh, i, l, r, t) := px_X_step (px_stp_of k (rfl))
theorem xs_ishl {x y z : Int} (k : px_cod m pc = some (.ishl, 1, [], z))  : px_X d m (pc, ls, vI y :: vI x :: st) (sh, i, l, r, t) = px_X d m (pc + 1, ls, vI (px_shl x y) :: st) (sh, i, l, r, t) := px_X_step (px_stp_of k (rfl))
theorem xs_ishr {x y z : Int} (k : px_cod m pc = some (.ishr, 1, [], z))  : px_X d m (pc, ls, vI y :: vI x :: st) (sh, i, l, r, t) = px_X d m (pc + 1, ls, vI (px_shr x y) :: st) (sh, i, l, r, t) := px_X_step (px_stp_of k (rfl))
theorem xs_iushr {x y z : Int} (k : px_cod m pc = some (.iushr, 1, [], z))  : px_X d m (pc, ls, vI y :: vI x :: st) (sh, i, l, r, t) = px_X d m (pc + 1, ls, vI (px_ushr x y) :: st) (sh, i, l, r, t) := px_X_step (px_stp_of k (rfl))
theorem xs_ladd {x y z : Int} (k : px_cod m pc = some (.ladd, 1, [], z))  : px_X d m (pc, ls, vL y :: vL x :: st) (sh, i, l, r, t) = px_X d m (pc + 1, ls, vL (px_w64 (x + y)) :: st) (sh, i, l, r, t) := px_X_step (px_stp_of k (rfl))
theorem xs_lsub {x y z : Int} (k : px_cod m pc = some (.lsub, 1, [], z))  : px_X d m (pc, ls, vL y :: vL x :: st) (sh, i, l, r, t) = px_X d m (pc + 1, ls, vL (px_w64 (x - y)) :: st) (sh, i, l, r, t) := px_X_step (px_stp_of k (rfl))
theorem xs_lmul {x y z : Int} (k : px_cod m pc = some (.lmul, 1, [], z))  : px_X d m (pc, ls, vL y :: vL x :: st) (sh, i, l, r, t) = px_X d m (pc + 1, ls, vL (px_w64 (x * y)) :: st) (sh, i, l, r, t) := px_X_step (px_stp_of k (rfl))
theorem xs_land {x y z : Int} (k : px_cod m pc = some (.land, 1, [], z))  : px_X d m (pc, ls, vL y :: vL x :: st) (sh, i, l, r, t) = px_X d m (pc + 1, ls, vL (px_land x y) :: st) (sh, i, l, r, t) := px_X_step (px_stp_of k (rfl))
theorem xs_lor {x y z : Int} (k : px_cod m pc = some (.lor, 1, [], z))  : px_X d m (pc, ls, vL y :: vL x :: st) (sh, i, l, r, t) = px_X d m (pc + 1, ls, vL (px_lor x y) :: st) (sh, i, l, r, t) := px_X_step (px_stp_of k (rfl))
theorem xs_lxor {x y z : Int} (k : px_cod m pc = some (.lxor, 1, [], z))  : px_X d m (pc, ls, vL y :: vL x :: st) (sh, i, l, r, t) = px_X d m (pc + 1, ls, vL (px_lxor x y) :: st) (sh, i, l, r, t) := px_X_step (px_stp_of k (rfl))
theorem xs_lshl {x y z : Int} (k : px_cod m pc = some (.lshl, 1, [], z))  : px_X d m (pc, ls, vI y :: vL x :: st) (sh, i, l, r, t) = px_X d m (pc + 1, ls, vL (px_lshl x y) :: st) (sh, i, l, r, t) := px_X_step (px_stp_of k (rfl))
theorem xs_lshr {x y z : Int} (k : px_cod m pc = some (.lshr, 1, [], z))  : px_X d m (pc, ls, vI y :: vL x :: st) (sh, i, l, r, t) = px_X d m (pc + 1, ls, vL (px_lshr x y) :: st) (sh, i, l, r, t) := px_X_step (px_stp_of k (rfl))
theorem xs_lushr {x y z : Int} (k : px_cod m pc = some (.lushr, 1, [], z))  : px_X d m (pc, ls, vI y :: vL x :: st) (sh, i, l, r, t) = px_X d m (pc + 1, ls, vL (px_lushr x y) :: st) (sh, i, l, r, t) := px_X_step (px_stp_of k (rfl))
theorem xs_idiv {x y z : Int} (k : px_cod m pc = some (.idiv, 1, [], z)) (h : ¬ y = 0) : px_X d m (pc, ls, vI y :: vI x :: st) (sh, i, l, r, t) = px_X d m (pc + 1, ls, vI (px_w32 (x.tdiv y)) :: st) (sh, i, l, r, t) := px_X_step (px_stp_of k (by unfold px_ex; try dsimp only; rw [if_neg h]; try rfl))
theorem xs_irem {x y z : Int} (k : px_cod m pc = some (.irem, 1, [], z)) (h : ¬ y = 0) : px_X d m (pc, ls, vI y :: vI x :: st) (sh, i, l, r, t) = px_X d m (pc + 1, ls, vI (x.tmod y) :: st) (sh, i, l, r, t) := px_X_step (px_stp_of k (by unfold px_ex; try dsimp only; rw [if_neg h]; try rfl))
theorem xs_ldiv {x y z : Int} (k : px_cod m pc = some (.ldiv, 1, [], z)) (h : ¬ y = 0) : px_X d m (pc, ls, vL y :: vL x :: st) (sh, i, l, r, t) = px_X d m (pc + 1, ls, vL (px_w64 (x.tdiv y)) :: st) (sh, i, l, r, t) := px_X_step (px_stp_of k (by unfold px_ex; try dsimp only; rw [if_neg h]; try rfl))
theorem xs_ineg {x z : Int} (k : px_cod m pc = some (.ineg, 1, [], z))  : px_X d m (pc, ls, vI x :: st) (sh, i, l, r, t) = px_X d m (pc + 1, ls, vI (px_w32 (-x)) :: st) (sh, i, l, r, t) := px_X_step (px_stp_of k (rfl))
theorem xs_lneg {x z : Int} (k : px_cod m pc = some (.lneg, 1, [], z))  : px_X d m (pc, ls, vL x :: st) (sh, i, l, r, t) = px_X d m (pc + 1, ls, vL (px_w64 (-x)) :: st) (sh, i, l, r, t) := px_X_step (px_stp_of k (rfl))
theorem xs_i2l {x z : Int} (k : px_cod m pc = some (.i2l, 1, [], z))  : px_X d m (pc, ls, vI x :: st) (sh, i, l, r, t) = px_X d m (pc + 1, ls, vL x :: st) (sh, i, l, r, t) := px_X_step (px_stp_of k (rfl))
theorem xs_l2i {x z : Int} (k : px_cod m pc = some (.l2i, 1, [], z))  : px_X d m (pc, ls, vL x :: st) (sh, i, l, r, t) = px_X d m (pc + 1, ls, vI (px_w32 x) :: st) (sh, i, l, r, t) := px_X_step (px_stp_of k (rfl))
theorem xs_i2b {x z : Int} (k : px_cod m pc = some (.i2b, 1, [], z))  : px_X d m (pc, ls, vI x :: st) (sh, i, l, r, t) = px_X d m (pc + 1, ls, vI (px_i2b x) :: st) (sh, i, l, r, t) := px_X_step (px_stp_of k (rfl))
theorem xs_lcmp {x y z : Int} (k : px_cod m pc = some (.lcmp, 1, [], z))  : px_X d m (pc, ls, vL y :: vL x :: st) (sh, i, l, r, t) = px_X d m (pc + 1, ls, vI (px_cmp x y) :: st) (sh, i, l, r, t) := px_X_step (px_stp_of k (rfl))
theorem xs_dup {v : PV} {z : Int} (k : px_cod m pc = some (.dup, 1, [], z)) (h : px_cat v = 1) : px_X d m (pc, ls, v :: st) (sh, i, l, r, t) = px_X d m (pc + 1, ls, v :: v :: st) (sh, i, l, r, t) := px_X_step (px_stp_of k (by unfold px_ex; try dsimp only; rw [if_pos h]; try rfl))
theorem xs_dup2 {u v : PV} {z : Int} (k : px_cod m pc = some (.dup2, 1, [], z)) (h : px_cat v = 1 ∧ px_cat u = 1) : px_X d m (pc, ls, v :: u :: st) (sh, i, l, r, t) = px_X d m (pc + 1, ls, v :: u :: v :: u :: st) (sh, i, l, r, t) := px_X_step (px_stp_of k (by unfold px_ex; try dsimp only; rw [if_pos h]; try rfl))
theorem xs_goto {o z : Int} {tg : Nat} (k : px_cod m pc = some (.goto o, 3, [tg], z))  : px_X d m (pc, ls, st) (sh, i, l, r, t) = px_X d m (tg, ls, st) (sh, i, l, r, t) := px_X_step (px_stp_of k (rfl))
theorem px_X_br {cd : ClassFile.Cond} {x y : Int} {tg : Nat} {f : FR} {s : PM} {c : Prop} {hd : Decidable c} (hc : px_cb cd x y ↔ c) (h : px_stp m f s = px_br cd x y tg pc ls st s) : px_X d m f s = @ite _ c hd (px_X d m (tg, ls, st) s) (px_X d m (pc + 3, ls, st) s) := by
  unfold px_br at h
  split at h
  · rename_i h1 _
    rw [if_pos (hc.mp h1)]
    exact px_X_step h
  · rename_i h1 _
    rw [if_neg (fun q => h1 (hc.mpr q))]
    exact px_X_step h
theorem px_ite_not {α : Type} (c : Prop) {hd : Decidable c} (a b : α) : (if ¬ c then a else b) = if c then b else a := by
  by_cases h : c
  · rw [if_pos h, if_neg (fun q => q h)]
  · rw [if_neg h, if_pos h]
def px_bi (c : Prop) [Decidable c] : Int := if c then 1 else 0
theorem px_bi_ne {c : Prop} [Decidable c] : px_cb .ne (px_bi c) 0 ↔ c := by
  unfold px_bi
  by_cases h : c
  · rw [if_pos h]; exact ⟨fun _ => h, fun _ => by show (1 : Int) ≠ 0; decide⟩
  · rw [if_neg h]; exact ⟨fun q => absurd rfl q, fun q => absurd q h⟩
theorem px_bi_eq {c : Prop} [Decidable c] : px_cb .eq (px_bi c) 0 ↔ ¬ c := by
  unfold px_bi
  by_cases h : c
  · rw [if_pos h]; exact ⟨fun q => absurd (show (1 : Int) = 0 from q) (by decide), fun q => absurd h q⟩
  · rw [if_neg h]; exact ⟨fun _ => h, fun _ => rfl⟩
theorem px_stp_br2 {cd : ClassFile.Cond} {o z x y : Int} {tg : Nat} (k : px_cod m pc = some (.if_icmp cd o, 3, [tg], z)) : px_stp m (pc, ls, vI y :: vI x :: st) (sh, i, l, r, t) = px_br cd x y tg pc ls st (sh, i, l, r, t) := by
  unfold px_stp; dsimp only; rw [k]; rfl
theorem px_stp_br1 {cd : ClassFile.Cond} {o z x : Int} {tg : Nat} (k : px_cod m pc = some (.ifCond cd o, 3, [tg], z)) : px_stp m (pc, ls, vI x :: st) (sh, i, l, r, t) = px_br cd x 0 tg pc ls st (sh, i, l, r, t) := by
  unfold px_stp; dsimp only; rw [k]; rfl
theorem xs_ieqb {o z : Int} {tg : Nat} {c : Prop} [Decidable c] (k : px_cod m pc = some (.ifCond .eq o, 3, [tg], z)) : px_X d m (pc, ls, vI (px_bi c) :: st) (sh, i, l, r, t) = if c then px_X d m (pc + 3, ls, st) (sh, i, l, r, t) else px_X d m (tg, ls, st) (sh, i, l, r, t) := (px_X_br (c := ¬ c) px_bi_eq (px_stp_br1 k)).trans (px_ite_not _ _ _)
theorem xs_jeq {o z x y : Int} {tg : Nat} (k : px_cod m pc = some (.if_icmp .eq o, 3, [tg], z)) : px_X d m (pc, ls, vI y :: vI x :: st) (sh, i, l, r, t) = if x = y then px_X d m (tg, ls, st) (sh, i, l, r, t) else px_X d m (pc + 3, ls, st) (sh, i, l, r, t) := px_X_br Iff.rfl (px_stp_br2 k)
theorem xs_ieq {o z x : Int} {tg : Nat} (k : px_cod m pc = some (.ifCond .eq o, 3, [tg], z)) : px_X d m (pc, ls, vI x :: st) (sh, i, l, r, t) = if x = 0 then px_X d m (tg, ls, st) (sh, i, l, r, t) else px_X d m (pc + 3, ls, st) (sh, i, l, r, t) := px_X_br Iff.rfl (px_stp_br1 k)
theorem xs_jne {o z x y : Int} {tg : Nat} (k : px_cod m pc = some (.if_icmp .ne o, 3, [tg], z)) : px_X d m (pc, ls, vI y :: vI x :: st) (sh, i, l, r, t) = if x = y then px_X d m (pc + 3, ls, st) (sh, i, l, r, t) else px_X d m (tg, ls, st) (sh, i, l, r, t) := (px_X_br (c := ¬ x = y) Iff.rfl (px_stp_br2 k)).trans (px_ite_not _ _ _)
theorem xs_ine {o z x : Int} {tg : Nat} (k : px_cod m pc = some (.ifCond .ne o, 3, [tg], z)) : px_X d m (pc, ls, vI x :: st) (sh, i, l, r, t) = if x = 0 then px_X d m (pc + 3, ls, st) (sh, i, l, r, t) else px_X d m (tg, ls, st) (sh, i, l, r, t) := (px_X_br (c := ¬ x = 0) Iff.rfl (px_stp_br1 k)).trans (px_ite_not _ _ _)
theorem xs_ineb {o z : Int} {tg : Nat} {c : Prop} [Decidable c] (k : px_cod m pc = some (.ifCond .ne o, 3, [tg], z)) : px_X d m (pc, ls, vI (px_bi c) :: st) (sh, i, l, r, t) = if c then px_X d m (tg, ls, st) (sh, i, l, r, t) else px_X d m (pc + 3, ls, st) (sh, i, l, r, t) := px_X_br (c := c) px_bi_ne (px_stp_br1 k)
theorem xs_jlt {o z x y : Int} {tg : Nat} (k : px_cod m pc = some (.if_icmp .lt o, 3, [tg], z)) : px_X d m (pc, ls, vI y :: vI x :: st) (sh, i, l, r, t) = if x < y then px_X d m (tg, ls, st) (sh, i, l, r, t) else px_X d m (pc + 3, ls, st) (sh, i, l, r, t) := px_X_br Iff.rfl (px_stp_br2 k)
theorem xs_ilt {o z x : Int} {tg : Nat} (k : px_cod m pc = some (.ifCond .lt o, 3, [tg], z)) : px_X d m (pc, ls, vI x :: st) (sh, i, l, r, t) = if x < 0 then px_X d m (tg, ls, st) (sh, i, l, r, t) else px_X d m (pc + 3, ls, st) (sh, i, l, r, t) := px_X_br Iff.rfl (px_stp_br1 k)
theorem xs_jge {o z x y : Int} {tg : Nat} (k : px_cod m pc = some (.if_icmp .ge o, 3, [tg], z)) : px_X d m (pc, ls, vI y :: vI x :: st) (sh, i, l, r, t) = if y ≤ x then px_X d m (tg, ls, st) (sh, i, l, r, t) else px_X d m (pc + 3, ls, st) (sh, i, l, r, t) := px_X_br Iff.rfl (px_stp_br2 k)
theorem xs_ige {o z x : Int} {tg : Nat} (k : px_cod m pc = some (.ifCond .ge o, 3, [tg], z)) : px_X d m (pc, ls, vI x :: st) (sh, i, l, r, t) = if 0 ≤ x then px_X d m (tg, ls, st) (sh, i, l, r, t) else px_X d m (pc + 3, ls, st) (sh, i, l, r, t) := px_X_br Iff.rfl (px_stp_br1 k)
theorem xs_jgt {o z x y : Int} {tg : Nat} (k : px_cod m pc = some (.if_icmp .gt o, 3, [tg], z)) : px_X d m (pc, ls, vI y :: vI x :: st) (sh, i, l, r, t) = if y < x then px_X d m (tg, ls, st) (sh, i, l, r, t) else px_X d m (pc + 3, ls, st) (sh, i, l, r, t) := px_X_br Iff.rfl (px_stp_br2 k)
theorem xs_igt {o z x : Int} {tg : Nat} (k : px_cod m pc = some (.ifCond .gt o, 3, [tg], z)) : px_X d m (pc, ls, vI x :: st) (sh, i, l, r, t) = if 0 < x then px_X d m (tg, ls, st) (sh, i, l, r, t) else px_X d m (pc + 3, ls, st) (sh, i, l, r, t) := px_X_br Iff.rfl (px_stp_br1 k)
theorem xs_jle {o z x y : Int} {tg : Nat} (k : px_cod m pc = some (.if_icmp .le o, 3, [tg], z)) : px_X d m (pc, ls, vI y :: vI x :: st) (sh, i, l, r, t) = if x ≤ y then px_X d m (tg, ls, st) (sh, i, l, r, t) else px_X d m (pc + 3, ls, st) (sh, i, l, r, t) := px_X_br Iff.rfl (px_stp_br2 k)
theorem xs_ile {o z x : Int} {tg : Nat} (k : px_cod m pc = some (.ifCond .le o, 3, [tg], z)) : px_X d m (pc, ls, vI x :: st) (sh, i, l, r, t) = if x ≤ 0 then px_X d m (tg, ls, st) (sh, i, l, r, t) else px_X d m (pc + 3, ls, st) (sh, i, l, r, t) := px_X_br Iff.rfl (px_stp_br1 k)
theorem xs_nullN {o z : Int} {tg : Nat} (k : px_cod m pc = some (.ifnull o, 3, [tg], z))  : px_X d m (pc, ls, vN :: st) (sh, i, l, r, t) = px_X d m (tg, ls, st) (sh, i, l, r, t) := px_X_step (px_stp_of k (rfl))
theorem xs_nullR {o z : Int} {tg c : Nat} (k : px_cod m pc = some (.ifnull o, 3, [tg], z))  : px_X d m (pc, ls, vR c :: st) (sh, i, l, r, t) = px_X d m (pc + 3, ls, st) (sh, i, l, r, t) := px_X_step (px_stp_of k (rfl))
theorem xs_nnulN {o z : Int} {tg : Nat} (k : px_cod m pc = some (.ifnonnull o, 3, [tg], z))  : px_X d m (pc, ls, vN :: st) (sh, i, l, r, t) = px_X d m (pc + 3, ls, st) (sh, i, l, r, t) := px_X_step (px_stp_of k (rfl))
theorem xs_nnulR {o z : Int} {tg c : Nat} (k : px_cod m pc = some (.ifnonnull o, 3, [tg], z))  : px_X d m (pc, ls, vR c :: st) (sh, i, l, r, t) = px_X d m (tg, ls, st) (sh, i, l, r, t) := px_X_step (px_stp_of k (rfl))
theorem xs_tsw {o lo hi z x : Int} {fs : Array Int} {ln dt tg : Nat} {ts : List Nat} (k : px_cod m pc = some (.tableswitch o lo hi fs, ln, dt :: ts, z)) (h : ¬ (x < lo ∨ hi < x)) (ht : ts[(x - lo).toNat]? = some tg) : px_X d m (pc, ls, vI x :: st) (sh, i, l, r, t) = px_X d m (tg, ls, st) (sh, i, l, r, t) := px_X_step (px_stp_of k (by unfold px_ex; try dsimp only; rw [if_neg h, ht]; try rfl))
theorem xs_tswd {o lo hi z x : Int} {fs : Array Int} {ln dt : Nat} {ts : List Nat} (k : px_cod m pc = some (.tableswitch o lo hi fs, ln, dt :: ts, z)) (h : x < lo ∨ hi < x) : px_X d m (pc, ls, vI x :: st) (sh, i, l, r, t) = px_X d m (dt, ls, st) (sh, i, l, r, t) := px_X_step (px_stp_of k (by unfold px_ex; try dsimp only; rw [if_pos h]; try rfl))
theorem xs_lsw {o z x : Int} {ps : Array (Int × Int)} {ln dt : Nat} {ts : List Nat} {q : (Int × Int) × Nat} (k : px_cod m pc = some (.lookupswitch o ps, ln, dt :: ts, z)) (h : (ps.toList.zip ts).find? (fun q => decide (q.1.1 = x)) = some q) : px_X d m (pc, ls, vI x :: st) (sh, i, l, r, t) = px_X d m (q.2, ls, st) (sh, i, l, r, t) := px_X_step (px_stp_of k (by unfold px_ex; try dsimp only; rw [h]; try rfl))
theorem xs_lswd {o z x : Int} {ps : Array (Int × Int)} {ln dt : Nat} {ts : List Nat} (k : px_cod m pc = some (.lookupswitch o ps, ln, dt :: ts, z)) (h : (ps.toList.zip ts).find? (fun q => decide (q.1.1 = x)) = none) : px_X d m (pc, ls, vI x :: st) (sh, i, l, r, t) = px_X d m (dt, ls, st) (sh, i, l, r, t) := px_X_step (px_stp_of k (by unfold px_ex; try dsimp only; rw [h]; try rfl))
theorem xs_get0 {n l0 ci fin c : Nat} {j : Int} (k : px_cod m pc = some (.getfield n, 3, [l0, ci, 0, fin], j)) (hk : sh[c]? = some (.inl ci)) (h3 : 3 ≤ c) : px_X d m (pc, ls, vR c :: st) (sh, i, l, r, t) = px_X d m (pc + 3, ls, vI (i c j) :: st) (sh, i, l, r, t) := px_X_step (px_stp_of k (by unfold px_ex; try dsimp only; unfold px_get; try dsimp only; rw [if_pos ⟨hk, h3⟩]; try rfl))
theorem xs_get1 {n l0 ci fin c : Nat} {j : Int} (k : px_cod m pc = some (.getfield n, 3, [l0, ci, 1, fin], j)) (hk : sh[c]? = some (.inl ci)) (h3 : 3 ≤ c) : px_X d m (pc, ls, vR c :: st) (sh, i, l, r, t) = px_X d m (pc + 3, ls, vI (i c j) :: st) (sh, i, l, r, t) := px_X_step (px_stp_of k (by unfold px_ex; try dsimp only; unfold px_get; try dsimp only; rw [if_pos ⟨hk, h3⟩]; try rfl))
theorem xs_get3 {n l0 ci fin c : Nat} {j : Int} (k : px_cod m pc = some (.getfield n, 3, [l0, ci, 3, fin], j)) (hk : sh[c]? = some (.inl ci)) (h3 : 3 ≤ c) : px_X d m (pc, ls, vR c :: st) (sh, i, l, r, t) = px_X d m (pc + 3, ls, vL (l c j) :: st) (sh, i, l, r, t) := px_X_step (px_stp_of k (by unfold px_ex; try dsimp only; unfold px_get; try dsimp only; rw [if_pos ⟨hk, h3⟩]; try rfl))
theorem xs_get4 {n l0 ci fin c c' : Nat} {j : Int} (k : px_cod m pc = some (.getfield n, 3, [l0, ci, 4, fin], j)) (hk : sh[c]? = some (.inl ci)) (h3 : 3 ≤ c) (hr : r c j = some c') : px_X d m (pc, ls, vR c :: st) (sh, i, l, r, t) = px_X d m (pc + 3, ls, vR c' :: st) (sh, i, l, r, t) := px_X_step (px_stp_of k (by unfold px_ex; try dsimp only; unfold px_get; try dsimp only; rw [if_pos ⟨hk, h3⟩, hr]; try rfl))
theorem xs_put0 {n l0 ci fin c : Nat} {j x : Int} (k : px_cod m pc = some (.putfield n, 3, [l0, ci, 0, fin], j)) (hf : fin = 0 ∨ px_kd m = 2 ∧ px_mo m = ci) (hk : sh[c]? = some (.inl ci)) (h3 : 3 ≤ c) : px_X d m (pc, ls, vI x :: vR c :: st) (sh, i, l, r, t) = px_X d m (pc + 3, ls, st) (sh, px_up i c j x, l, r, t) := px_X_step (px_stp_of k (by unfold px_ex; try dsimp only; rw [if_pos hf]; unfold px_put; try dsimp only; rw [if_pos ⟨hk, h3⟩]; try rfl))
theorem xs_put1 {n l0 ci fin c : Nat} {j x : Int} (k : px_cod m pc = some (.putfield n, 3, [l0, ci, 1, fin], j)) (hf : fin = 0 ∨ px_kd m = 2 ∧ px_mo m = ci) (hk : sh[c]? = some (.inl ci)) (h3 : 3 ≤ c) (hx : x = 0 ∨ x = 1) : px_X d m (pc, ls, vI x :: vR c :: st) (sh, i, l, r, t) = px_X d m (pc + 3, ls, st) (sh, px_up i c j x, l, r, t) := px_X_step (px_stp_of k (by unfold px_ex; try dsimp only; rw [if_pos hf]; unfold px_put; try dsimp only; rw [if_pos ⟨hk, h3⟩]; exact if_pos hx))
theorem xs_put3 {n l0 ci fin c : Nat} {j x : Int} (k : px_cod m pc = some (.putfield n, 3, [l0, ci, 3, fin], j)) (hf : fin = 0 ∨ px_kd m = 2 ∧ px_mo m = ci) (hk : sh[c]? = some (.inl ci)) (h3 : 3 ≤ c) : px_X d m (pc, ls, vL x :: vR c :: st) (sh, i, l, r, t) = px_X d m (pc + 3, ls, st) (sh, i, px_up l c j x, r, t) := px_X_step (px_stp_of k (by unfold px_ex; try dsimp only; rw [if_pos hf]; unfold px_put; try dsimp only; rw [if_pos ⟨hk, h3⟩]; try rfl))
theorem xs_put4 {n l0 ci fin c x : Nat} {j : Int} (k : px_cod m pc = some (.putfield n, 3, [l0, ci, 4, fin], j)) (hf : fin = 0 ∨ px_kd m = 2 ∧ px_mo m = ci) (hk : sh[c]? = some (.inl ci)) (h3 : 3 ≤ c) : px_X d m (pc, ls, vR x :: vR c :: st) (sh, i, l, r, t) = px_X d m (pc + 3, ls, st) (sh, i, l, px_up r c j (some x), t) := px_X_step (px_stp_of k (by unfold px_ex; try dsimp only; rw [if_pos hf]; unfold px_put; try dsimp only; rw [if_pos ⟨hk, h3⟩]; try rfl))
theorem xs_aln {kd n c : Nat} {z : Int} (k : px_cod m pc = some (.arraylength, 1, [], z)) (hk : sh[c]? = some (.inr (kd, n))) : px_X d m (pc, ls, vR c :: st) (sh, i, l, r, t) = px_X d m (pc + 1, ls, vI (n : Int) :: st) (sh, i, l, r, t) := px_X_step (px_stp_of k (by unfold px_ex; try dsimp only; unfold px_aln; try dsimp only; rw [hk]; try rfl))
theorem xs_iald {n c : Nat} {x z : Int} (k : px_cod m pc = some (.iaload, 1, [], z)) (hk : sh[c]? = some (.inr (0, n))) (hx : 0 ≤ x ∧ x < (n : Int)) : px_X d m (pc, ls, vI x :: vR c :: st) (sh, i, l, r, t) = px_X d m (pc + 1, ls, vI (i c x) :: st) (sh, i, l, r, t) := px_X_step (px_stp_of k (by unfold px_ex; try dsimp only; unfold px_ild; try dsimp only; rw [hk]; try dsimp only; rw [if_pos ⟨rfl, hx.1, hx.2⟩]; try rfl))
theorem xs_bald1 {n c : Nat} {x z : Int} (k : px_cod m pc = some (.baload, 1, [], z)) (hk : sh[c]? = some (.inr (1, n))) (hx : 0 ≤ x ∧ x < (n : Int)) : px_X d m (pc, ls, vI x :: vR c :: st) (sh, i, l, r, t) = px_X d m (pc + 1, ls, vI (i c x) :: st) (sh, i, l, r, t) := px_X_step (px_stp_of k (by unfold px_ex; try dsimp only; unfold px_ild; try dsimp only; rw [hk]; try dsimp only; rw [if_pos ⟨rfl, hx.1, hx.2⟩]; try rfl))
theorem xs_bald2 {n c : Nat} {x z : Int} (k : px_cod m pc = some (.baload, 1, [], z)) (hk : sh[c]? = some (.inr (2, n))) (hx : 0 ≤ x ∧ x < (n : Int)) : px_X d m (pc, ls, vI x :: vR c :: st) (sh, i, l, r, t) = px_X d m (pc + 1, ls, vI (i c x) :: st) (sh, i, l, r, t) := px_X_step (px_stp_of k (by unfold px_ex; try dsimp only; unfold px_ild; try dsimp only; rw [hk]; try dsimp only; rw [if_pos ⟨rfl, hx.1, hx.2⟩]; try rfl))
theorem xs_lald {n c : Nat} {x z : Int} (k : px_cod m pc = some (.laload, 1, [], z)) (hk : sh[c]? = some (.inr (3, n))) (hx : 0 ≤ x ∧ x < (n : Int)) : px_X d m (pc, ls, vI x :: vR c :: st) (sh, i, l, r, t) = px_X d m (pc + 1, ls, vL (l c x) :: st) (sh, i, l, r, t) := px_X_step (px_stp_of k (by unfold px_ex; try dsimp only; unfold px_jld; try dsimp only; rw [hk]; try dsimp only; rw [if_pos ⟨rfl, hx.1, hx.2⟩]; try rfl))
theorem xs_aald {kd n c : Nat} {x z : Int} {v : Option Nat} (k : px_cod m pc = some (.aaload, 1, [], z)) (hk : sh[c]? = some (.inr (kd, n))) (h4 : 4 ≤ kd) (hx : 0 ≤ x ∧ x < (n : Int)) (hr : r c x = v) : px_X d m (pc, ls, vI x :: vR c :: st) (sh, i, l, r, t) = px_X d m (pc + 1, ls, .inr (.inr (.inl v)) :: st) (sh, i, l, r, t) := px_X_step (px_stp_of k (by unfold px_ex; try dsimp only; unfold px_qld; try dsimp only; rw [hk]; try dsimp only; rw [if_pos ⟨h4, hx.1, hx.2⟩, hr]; try rfl))
theorem xs_iast {n c : Nat} {x v z : Int} (k : px_cod m pc = some (.iastore, 1, [], z)) (hk : sh[c]? = some (.inr (0, n))) (hx : 0 ≤ x ∧ x < (n : Int)) (h3 : 3 ≤ c) : px_X d m (pc, ls, vI v :: vI x :: vR c :: st) (sh, i, l, r, t) = px_X d m (pc + 1, ls, st) (sh, px_up i c x v, l, r, t) := px_X_step (px_stp_of k (by unfold px_ex; try dsimp only; unfold px_iss; try dsimp only; rw [hk]; try dsimp only; rw [if_pos ⟨rfl, hx.1, hx.2, h3⟩]; try rfl))
theorem xs_bast1 {n c : Nat} {x v z : Int} (k : px_cod m pc = some (.bastore, 1, [], z)) (hk : sh[c]? = some (.inr (1, n))) (hx : 0 ≤ x ∧ x < (n : Int)) (h3 : 3 ≤ c) : px_X d m (pc, ls, vI v :: vI x :: vR c :: st) (sh, i, l, r, t) = px_X d m (pc + 1, ls, st) (sh, px_up i c x (px_i2b v), l, r, t) := px_X_step (px_stp_of k (by unfold px_ex; try dsimp only; unfold px_bss; try dsimp only; rw [hk]; try dsimp only; rw [if_pos ⟨rfl, hx.1, hx.2, h3⟩]; try rfl))
theorem xs_bast2 {n c : Nat} {x v z : Int} (k : px_cod m pc = some (.bastore, 1, [], z)) (hk : sh[c]? = some (.inr (2, n))) (hx : 0 ≤ x ∧ x < (n : Int)) (h3 : 3 ≤ c) (hv : v = 0 ∨ v = 1) : px_X d m (pc, ls, vI v :: vI x :: vR c :: st) (sh, i, l, r, t) = px_X d m (pc + 1, ls, st) (sh, px_up i c x v, l, r, t) := px_X_step (px_stp_of k (by unfold px_ex; try dsimp only; unfold px_bss; try dsimp only; rw [hk]; try dsimp only; rw [if_neg (fun q => by have := q.1; omega), if_pos ⟨rfl, hx.1, hx.2, h3, hv⟩]; try rfl))
theorem xs_last {n c : Nat} {x v z : Int} (k : px_cod m pc = some (.lastore, 1, [], z)) (hk : sh[c]? = some (.inr (3, n))) (hx : 0 ≤ x ∧ x < (n : Int)) (h3 : 3 ≤ c) : px_X d m (pc, ls, vL v :: vI x :: vR c :: st) (sh, i, l, r, t) = px_X d m (pc + 1, ls, st) (sh, i, px_up l c x v, r, t) := px_X_step (px_stp_of k (by unfold px_ex; try dsimp only; unfold px_jss; try dsimp only; rw [hk]; try dsimp only; rw [if_pos ⟨rfl, hx.1, hx.2, h3⟩]; try rfl))
theorem xs_aast {kd n c v : Nat} {x z : Int} (k : px_cod m pc = some (.aastore, 1, [], z)) (hk : sh[c]? = some (.inr (kd, n))) (h4 : 4 ≤ kd) (hx : 0 ≤ x ∧ x < (n : Int)) (h3 : 3 ≤ c) (hv : sh[v]? = some (.inl (kd - 4))) (hv3 : 3 ≤ v) : px_X d m (pc, ls, vR v :: vI x :: vR c :: st) (sh, i, l, r, t) = px_X d m (pc + 1, ls, st) (sh, i, l, px_up r c x (some v), t) := px_X_step (px_stp_of k (by unfold px_ex; try dsimp only; unfold px_qss; try dsimp only; rw [hk]; try dsimp only; rw [if_pos ⟨h4, hx.1, hx.2, h3, hv, hv3⟩]; try rfl))
theorem xs_new {n l0 ci : Nat} {z : Int} (k : px_cod m pc = some (.new n, 3, [l0, ci], z))  : px_X d m (pc, ls, st) (sh, i, l, r, t) = px_X d m (pc + 3, ls, vR sh.length :: st) (px_mk (sh, i, l, r, t) (.inl ci) (px_nf ci)) := px_X_step (px_stp_of k (rfl))
theorem xs_nwa0 {o : Nat} {x z : Int} (k : px_cod m pc = some (.newarray .int, 2, [o], z)) (hx : 0 ≤ x ∧ x ≤ 10000) : px_X d m (pc, ls, vI x :: st) (sh, i, l, r, t) = px_X d m (pc + 2, ls, vR sh.length :: st) (px_mk (sh, i, l, r, t) (.inr (0, x.toNat)) x.toNat) := px_X_step (px_stp_of k (by unfold px_ex; try dsimp only; unfold px_nwa; try dsimp only; rw [if_pos hx]; try rfl))
theorem xs_nwa1 {o : Nat} {x z : Int} (k : px_cod m pc = some (.newarray .byte, 2, [o], z)) (hx : 0 ≤ x ∧ x ≤ 10000) : px_X d m (pc, ls, vI x :: st) (sh, i, l, r, t) = px_X d m (pc + 2, ls, vR sh.length :: st) (px_mk (sh, i, l, r, t) (.inr (1, x.toNat)) x.toNat) := px_X_step (px_stp_of k (by unfold px_ex; try dsimp only; unfold px_nwa; try dsimp only; rw [if_pos hx]; try rfl))
theorem xs_nwa2 {o : Nat} {x z : Int} (k : px_cod m pc = some (.newarray .boolean, 2, [o], z)) (hx : 0 ≤ x ∧ x ≤ 10000) : px_X d m (pc, ls, vI x :: st) (sh, i, l, r, t) = px_X d m (pc + 2, ls, vR sh.length :: st) (px_mk (sh, i, l, r, t) (.inr (2, x.toNat)) x.toNat) := px_X_step (px_stp_of k (by unfold px_ex; try dsimp only; unfold px_nwa; try dsimp only; rw [if_pos hx]; try rfl))
theorem xs_nwa3 {o : Nat} {x z : Int} (k : px_cod m pc = some (.newarray .long, 2, [o], z)) (hx : 0 ≤ x ∧ x ≤ 10000) : px_X d m (pc, ls, vI x :: st) (sh, i, l, r, t) = px_X d m (pc + 2, ls, vR sh.length :: st) (px_mk (sh, i, l, r, t) (.inr (3, x.toNat)) x.toNat) := px_X_step (px_stp_of k (by unfold px_ex; try dsimp only; unfold px_nwa; try dsimp only; rw [if_pos hx]; try rfl))
theorem xs_anw {n l0 ci : Nat} {x z : Int} (k : px_cod m pc = some (.anewarray n, 3, [l0, ci], z)) (hc : ci = 3 ∨ ci = 11) (hx : 0 ≤ x ∧ x ≤ 10000) : px_X d m (pc, ls, vI x :: st) (sh, i, l, r, t) = px_X d m (pc + 3, ls, vR sh.length :: st) (px_mk (sh, i, l, r, t) (.inr (4 + ci, x.toNat)) x.toNat) := px_X_step (px_stp_of k (by unfold px_ex; try dsimp only; rw [if_pos hc]; unfold px_nwa; try dsimp only; rw [if_pos hx]; try rfl))
theorem xs_ldc {n l0 : Nat} {v : Int} (k : px_cod m pc = some (.ldc n, 2, [0, l0], v))  : px_X d m (pc, ls, st) (sh, i, l, r, t) = px_X d m (pc + 2, ls, vI v :: st) (sh, i, l, r, t) := px_X_step (px_stp_of k (rfl))
theorem xs_ldcs {n : Nat} {z : Int} (k : px_cod m pc = some (.ldc n, 2, [20], z)) (h : px_mo m = 8 ∧ n = 99) : px_X d m (pc, ls, st) (sh, i, l, r, t) = px_X d m (pc + 2, ls, vR 2 :: st) (sh, i, l, r, t) := px_X_step (px_stp_of k (by unfold px_ex; try dsimp only; rw [if_pos h]; try rfl))
theorem xs_ldcw {n l0 : Nat} {v : Int} (k : px_cod m pc = some (.ldc_w n, 3, [0, l0], v))  : px_X d m (pc, ls, st) (sh, i, l, r, t) = px_X d m (pc + 3, ls, vI v :: st) (sh, i, l, r, t) := px_X_step (px_stp_of k (rfl))
theorem xs_ldc2 {n l0 : Nat} {v : Int} (k : px_cod m pc = some (.ldc2_w n, 3, [0, l0], v))  : px_X d m (pc, ls, st) (sh, i, l, r, t) = px_X d m (pc + 3, ls, vL v :: st) (sh, i, l, r, t) := px_X_step (px_stp_of k (rfl))
theorem xs_gets {n : Nat} {z : Int} (k : px_cod m pc = some (.getstatic n, 3, [], z)) (h : m = 102 ∧ n = 118) : px_X d m (pc, ls, st) (sh, i, l, r, t) = px_X d m (pc + 3, ls, vR 1 :: st) (sh, i, l, r, t) := px_X_step (px_stp_of k (by unfold px_ex; try dsimp only; rw [if_pos h]; try rfl))
theorem xs_obj {n l0 c : Nat} {z : Int} (k : px_cod m pc = some (.invokespecial n, 3, [1, l0], z)) (h8 : (st.map px_cat).sum ≤ 8) : px_X d m (pc, ls, vR c :: st) (sh, i, l, r, t) = px_X d m (pc + 3, ls, st) (sh, i, l, r, t) := px_X_step (px_stp_of k (by unfold px_ex; try dsimp only; rw [if_pos h8]; try rfl))
theorem xs_imax {n l0 : Nat} {x y z : Int} (k : px_cod m pc = some (.invokestatic n, 3, [5, l0], z)) (h8 : (st.map px_cat).sum ≤ 8) : px_X d m (pc, ls, vI y :: vI x :: st) (sh, i, l, r, t) = px_X d m (pc + 3, ls, vI (if x < y then y else x) :: st) (sh, i, l, r, t) := px_X_step (px_stp_of k (by show (if (st.map px_cat).sum ≤ 8 then px_nx (pc + 3) ls (vI (if x < y then y else x) :: st) (sh, i, l, r, t) else none) = _; exact if_pos h8))
theorem xs_imin {n l0 : Nat} {x y z : Int} (k : px_cod m pc = some (.invokestatic n, 3, [6, l0], z)) (h8 : (st.map px_cat).sum ≤ 8) : px_X d m (pc, ls, vI y :: vI x :: st) (sh, i, l, r, t) = px_X d m (pc + 3, ls, vI (if y < x then y else x) :: st) (sh, i, l, r, t) := px_X_step (px_stp_of k (by show (if (st.map px_cat).sum ≤ 8 then px_nx (pc + 3) ls (vI (if y < x then y else x) :: st) (sh, i, l, r, t) else none) = _; exact if_pos h8))
theorem xs_lmax {n l0 : Nat} {x y z : Int} (k : px_cod m pc = some (.invokestatic n, 3, [8, l0], z)) (h8 : (st.map px_cat).sum ≤ 8) : px_X d m (pc, ls, vL y :: vL x :: st) (sh, i, l, r, t) = px_X d m (pc + 3, ls, vL (if y < x then x else y) :: st) (sh, i, l, r, t) := px_X_step (px_stp_of k (by show (if (st.map px_cat).sum ≤ 8 then px_nx (pc + 3) ls (vL (if y < x then x else y) :: st) (sh, i, l, r, t) else none) = _; exact if_pos h8))
theorem xs_lmin {n l0 : Nat} {x y z : Int} (k : px_cod m pc = some (.invokestatic n, 3, [9, l0], z)) (h8 : (st.map px_cat).sum ≤ 8) : px_X d m (pc, ls, vL y :: vL x :: st) (sh, i, l, r, t) = px_X d m (pc + 3, ls, vL (if x < y then x else y) :: st) (sh, i, l, r, t) := px_X_step (px_stp_of k (by show (if (st.map px_cat).sum ≤ 8 then px_nx (pc + 3) ls (vL (if x < y then x else y) :: st) (sh, i, l, r, t) else none) = _; exact if_pos h8))
theorem xs_iabs {n l0 : Nat} {x z : Int} (k : px_cod m pc = some (.invokestatic n, 3, [7, l0], z)) (h8 : (st.map px_cat).sum ≤ 8) : px_X d m (pc, ls, vI x :: st) (sh, i, l, r, t) = px_X d m (pc + 3, ls, vI (if 0 ≤ x then x else px_w32 (0 - x)) :: st) (sh, i, l, r, t) := px_X_step (px_stp_of k (by unfold px_ex; try dsimp only; unfold px_ma; try dsimp only; rw [if_pos h8]; try rfl))
theorem xs_sln {n l0 : Nat} {z : Int} (k : px_cod m pc = some (.invokevirtual n, 3, [3, l0], z)) (h8 : (st.map px_cat).sum ≤ 8) : px_X d m (pc, ls, vR 2 :: st) (sh, i, l, r, t) = px_X d m (pc + 3, ls, vI 124 :: st) (sh, i, l, r, t) := px_X_step (px_stp_of k (by show (if (st.map px_cat).sum ≤ 8 then px_nx (pc + 3) ls (vI (px_words.length : Nat) :: st) (sh, i, l, r, t) else none) = _; exact if_pos h8))
theorem xs_sch {n l0 : Nat} {x z : Int} (k : px_cod m pc = some (.invokevirtual n, 3, [4, l0], z)) (hx : 0 ≤ x ∧ x < 124) (h8 : (st.map px_cat).sum ≤ 8) : px_X d m (pc, ls, vI x :: vR 2 :: st) (sh, i, l, r, t) = px_X d m (pc + 3, ls, vI ((px_words.getD x.toNat 0 : Nat) : Int) :: st) (sh, i, l, r, t) := px_X_step (px_stp_of k (by show (if 0 ≤ x ∧ x < (px_words.length : Nat) ∧ (st.map px_cat).sum ≤ 8 then px_nx (pc + 3) ls (vI ((px_words.getD x.toNat 0 : Nat) : Int) :: st) (sh, i, l, r, t) else none) = _; exact if_pos ⟨hx.1, hx.2, h8⟩))
theorem xs_acpi {n l0 c c0 n1 n0 : Nat} {x sp dp z : Int} (k : px_cod m pc = some (.invokestatic n, 3, [2, l0], z)) (hk : sh[c]? = some (.inr (0, n1))) (hk0 : sh[c0]? = some (.inr (0, n0))) (h : 0 ≤ x ∧ 0 ≤ sp ∧ 0 ≤ dp ∧ sp + x ≤ (n0 : Int) ∧ dp + x ≤ (n1 : Int)) (h3 : 3 ≤ c) (h30 : 3 ≤ c0) (h8 : (st.map px_cat).sum ≤ 8) : px_X d m (pc, ls, vI x :: vI dp :: vR c :: vI sp :: vR c0 :: st) (sh, i, l, r, t) = px_X d m (pc + 3, ls, st) (sh, px_un i c (fun j => if dp ≤ j ∧ j < dp + x then i c0 (sp + (j - dp)) else i c j), l, r, t) := px_X_step (px_stp_of k (by unfold px_ex; try dsimp only; unfold px_acp; try dsimp only; rw [hk, hk0]; try dsimp only; rw [if_pos ⟨rfl, h.1, h.2.1, h.2.2.1, h.2.2.2.1, h.2.2.2.2, h3, h30, h8⟩]; try rfl))
theorem xs_acpl {n l0 c c0 n1 n0 : Nat} {x sp dp z : Int} (k : px_cod m pc = some (.invokestatic n, 3, [2, l0], z)) (hk : sh[c]? = some (.inr (3, n1))) (hk0 : sh[c0]? = some (.inr (3, n0))) (h : 0 ≤ x ∧ 0 ≤ sp ∧ 0 ≤ dp ∧ sp + x ≤ (n0 : Int) ∧ dp + x ≤ (n1 : Int)) (h3 : 3 ≤ c) (h30 : 3 ≤ c0) (h8 : (st.map px_cat).sum ≤ 8) : px_X d m (pc, ls, vI x :: vI dp :: vR c :: vI sp :: vR c0 :: st) (sh, i, l, r, t) = px_X d m (pc + 3, ls, st) (sh, i, px_un l c (fun j => if dp ≤ j ∧ j < dp + x then l c0 (sp + (j - dp)) else l c j), r, t) := px_X_step (px_stp_of k (by unfold px_ex; try dsimp only; unfold px_acp; try dsimp only; rw [hk, hk0]; try dsimp only; rw [if_pos ⟨rfl, h.1, h.2.1, h.2.2.1, h.2.2.2.1, h.2.2.2.2, h3, h30, h8⟩]; try rfl))
theorem xs_ri {x z : Int} (k : px_cod m pc = some (.ireturn, 1, [], z)) (h : px_ret m = some .int) : px_X d m (pc, ls, [vI x]) (sh, i, l, r, t) = some (some (vI x), (sh, i, l, r, t)) := px_X_ret (px_stp_of k (by unfold px_ex; dsimp only; rw [if_pos (Or.inl h)]))
theorem xs_rz {x z : Int} (k : px_cod m pc = some (.ireturn, 1, [], z)) (h : px_ret m = some .boolean) (hx : x = 0 ∨ x = 1) : px_X d m (pc, ls, [vI x]) (sh, i, l, r, t) = some (some (vI x), (sh, i, l, r, t)) := px_X_ret (px_stp_of k (by unfold px_ex; dsimp only; rw [if_pos (Or.inr ⟨h, hx⟩)]))
theorem xs_rl {x z : Int} (k : px_cod m pc = some (.lreturn, 1, [], z)) (h : px_ret m = some .long) : px_X d m (pc, ls, [vL x]) (sh, i, l, r, t) = some (some (vL x), (sh, i, l, r, t)) := px_X_ret (px_stp_of k (by unfold px_ex; dsimp only; rw [if_pos h]))
theorem xs_ra {x : Option Nat} {z : Int} {C : String} (k : px_cod m pc = some (.areturn, 1, [], z)) (h : px_ret m = some (.object C)) : px_X d m (pc, ls, [.inr (.inr (.inl x))]) (sh, i, l, r, t) = some (some (.inr (.inr (.inl x))), (sh, i, l, r, t)) := px_X_ret (px_stp_of k (by unfold px_ex; dsimp only; rw [h]))
theorem xs_rv {z : Int} (k : px_cod m pc = some (.return_, 1, [], z)) (h : px_ret m = none) : px_X d m (pc, ls, []) (sh, i, l, r, t) = some (none, (sh, i, l, r, t)) := px_X_ret (px_stp_of k (by unfold px_ex; dsimp only; rw [if_pos h]))
theorem px_bi01 {c : Prop} [Decidable c] : px_bi c = 0 ∨ px_bi c = 1 := by
  unfold px_bi
  by_cases h : c
  · rw [if_pos h]; exact Or.inr rfl
  · rw [if_neg h]; exact Or.inl rfl
theorem px_ite {α : Type} {c : Prop} {hd : Decidable c} {a a' b b' : α} (h1 : c → a = a') (h2 : ¬ c → b = b') : (if c then a else b) = if c then a' else b' := by
  by_cases h : c
  · rw [if_pos h, if_pos h, h1 h]
  · rw [if_neg h, if_neg h, h2 h]
theorem xs_calls {n l0 m' : Nat} {as : List PV} {z : Int} {v : Option PV} {s2 : PM} (k : px_cod m pc = some (.invokestatic n, 3, [0, l0, m'], z)) (hst : st = as.reverse ++ st') (hn : as.length = px_na m') (h8 : (st'.map px_cat).sum ≤ 8) (hm : m' + 1 < px_nm) (hl : (px_xp as).length ≤ px_ml m')
    (hc : px_C d m' as (sh, i, l, r, t) = some (v, s2)) : px_X (d + 1) m (pc, ls, st) (sh, i, l, r, t) = px_X (d + 1) m (px_psh (pc + 3, ls, st') v) s2 := by
  subst hst
  have e1 : (as.reverse ++ st').take (px_na m') = as.reverse := by rw [← hn, ← List.length_reverse, List.take_left']; rfl
  have e2 : (as.reverse ++ st').drop (px_na m') = st' := by rw [← hn, ← List.length_reverse, List.drop_left']; rfl
  refine px_X_call (px_stp_of k ?_) hc
  show px_call m' 0 pc ls (as.reverse ++ st') (sh, i, l, r, t) = _
  unfold px_call
  rw [e1, e2, List.reverse_reverse, if_pos ⟨by rw [List.length_append, List.length_reverse]; omega, h8, hm, hl⟩]
theorem xs_callv {n l0 m' c : Nat} {as : List PV} {z : Int} {v : Option PV} {s2 : PM} (k : px_cod m pc = some (.invokevirtual n, 3, [0, l0, m'], z)) (hst : st = as.reverse ++ vR c :: st') (hn : as.length + 1 = px_na m') (h8 : (st'.map px_cat).sum ≤ 8) (hm : m' + 1 < px_nm) (hl : (px_xp (vR c :: as)).length ≤ px_ml m') (hk : sh[c]? = some (.inl (px_mo m'))) (h3 : 3 ≤ c)
    (hc : px_C d m' (vR c :: as) (sh, i, l, r, t) = some (v, s2)) : px_X (d + 1) m (pc, ls, st) (sh, i, l, r, t) = px_X (d + 1) m (px_psh (pc + 3, ls, st') v) s2 := by
  subst hst
  have e0 : as.reverse ++ vR c :: st' = (vR c :: as).reverse ++ st' := by rw [List.reverse_cons, List.append_assoc]; rfl
  have e1 : ((vR c :: as).reverse ++ st').take (px_na m') = (vR c :: as).reverse := by rw [← hn, ← List.length_cons (a := vR c), ← List.length_reverse, List.take_left']; rfl
  have e2 : ((vR c :: as).reverse ++ st').drop (px_na m') = st' := by rw [← hn, ← List.length_cons (a := vR c), ← List.length_reverse, List.drop_left']; rfl
  rw [e0]
  refine px_X_call (px_stp_of k ?_) hc
  show px_call m' 1 pc ls ((vR c :: as).reverse ++ st') (sh, i, l, r, t) = _
  unfold px_call
  rw [e1, e2, List.reverse_reverse, if_pos ⟨by rw [List.length_append, List.length_reverse, List.length_cons]; omega, h8, hm, hl⟩]
  exact if_pos ⟨hk, h3⟩
theorem xs_calli {n l0 m' c : Nat} {as : List PV} {z : Int} {v : Option PV} {s2 : PM} (k : px_cod m pc = some (.invokespecial n, 3, [0, l0, m'], z)) (hst : st = as.reverse ++ vR c :: st') (hn : as.length + 1 = px_na m') (h8 : (st'.map px_cat).sum ≤ 8) (hm : m' + 1 < px_nm) (hl : (px_xp (vR c :: as)).length ≤ px_ml m') (hk : sh[c]? = some (.inl (px_mo m'))) (h3 : 3 ≤ c)
    (hc : px_C d m' (vR c :: as) (sh, i, l, r, t) = some (v, s2)) : px_X (d + 1) m (pc, ls, st) (sh, i, l, r, t) = px_X (d + 1) m (px_psh (pc + 3, ls, st') v) s2 := by
  subst hst
  have e0 : as.reverse ++ vR c :: st' = (vR c :: as).reverse ++ st' := by rw [List.reverse_cons, List.append_assoc]; rfl
  have e1 : ((vR c :: as).reverse ++ st').take (px_na m') = (vR c :: as).reverse := by rw [← hn, ← List.length_cons (a := vR c), ← List.length_reverse, List.take_left']; rfl
  have e2 : ((vR c :: as).reverse ++ st').drop (px_na m') = st' := by rw [← hn, ← List.length_cons (a := vR c), ← List.length_reverse, List.drop_left']; rfl
  rw [e0]
  refine px_X_call (px_stp_of k ?_) hc
  show px_call m' 2 pc ls ((vR c :: as).reverse ++ st') (sh, i, l, r, t) = _
  unfold px_call
  rw [e1, e2, List.reverse_reverse, if_pos ⟨by rw [List.length_append, List.length_reverse, List.length_cons]; omega, h8, hm, hl⟩]
  exact if_pos ⟨hk, h3⟩
end PXE
