/-- both sides show one state -/
def St (M : Mm) : Prop := ∃ (r : Rw) (h : Nat) (H : Nat → Rw) (t : Rw), Cls M r h H t ∧ Ref M r h H t ∧ okR r ∧ okT t
theorem Op.run {α : Type} {oc om : Mm → Option (α × Mm)} {r : Rw} {h : Nat} {H : Nat → Rw} {t : Rw} {M : Mm} (o : Op oc om r h H t) (c : Cls M r h H t) (f : Ref M r h H t) : ∃ (v : α) (M1 M2 : Mm), oc M = some (v, M1) ∧ om M1 = some (v, M2) ∧ St M2 := by
  obtain ⟨v, r', h', H', t', o1, o2, hc, hm⟩ := o
  obtain ⟨⟨v1, M1⟩, e1, c1, c2, c3⟩ := (hc M c).ex
  dsimp only at c1 c2 c3
  have f1 : Ref M1 r h H t := f.keep (by rw [c3 40 (by omega)]) (by rw [c3 40 (by omega)]) (fun k hk => c3 k (by omega))
  obtain ⟨⟨v2, M2⟩, e2, d1, d2, d3⟩ := (hm M1 f1).ex
  dsimp only at d1 d2 d3
  subst c1
  refine ⟨v1, M1, M2, e1, by rw [e2, d1], r', h', H', t', c2.keep (fun k hk => d3 k (by omega)), d2, o1, o2⟩
theorem rd_inv {α : Type} {o : Mm → Option α} {M M1 : Mm} {v : α} (e : rd o M = some (v, M1)) : o M = some v ∧ M1 = M := by
  unfold rd at e
  cases h : o M with
  | none =>
    rw [h] at e
    cases e
  | some w =>
    rw [h] at e
    cases e
    exact ⟨rfl, rfl⟩
abbrev LL (b : Nat) (q : Nat → Nat) (i : Nat) : List (Nat × Value) := [(0, .ref b), (1, .ref (q 0)), (2, .ref (q 40)), (3, .int (nI i))]
theorem nI_rep (x : Int32) : x = nI x.toBitVec.toNat := Int32.toBitVec_inj.mp (by show _ = BitVec.ofNat 32 _; simp)
theorem and31 (x : Int32) : ∃ w, w < 32 ∧ x &&& 31 = nI w := by
  refine ⟨x.toBitVec.toNat % 2 ^ 5, Nat.mod_lt _ (by omega), ?_⟩
  have h : x.toBitVec.toNat < 2 ^ 32 := x.toBitVec.isLt
  have e := pk_andN h (m := 31) 5 (by decide)
  rw [← nI_rep] at e
  exact e
theorem cmp_self (x : Int64) : lg_cmp x x = 0 := by
  unfold lg_cmp
  simp
section LAW
variable {p : Program} {l : Launch} {e : Env} {R : Room} {s : State} {m : MethodId} {args : Array Value} {below : List Frame} {meth : Method} {c : Code} {Q : State → Prop} {D : va_G} {cy : Nat → ClassId} {q : Nat → Nat} {A : Nat → Prop} {H0 : Heap} {nL cl sl : Nat} {M : Mm} {pc : Nat} {L : List (Nat × Value)} {st : List Value} {cc : ByteArray} {own : String} {Ts : List Cond} {b n i : Nat} {xs : Nat → Int32}
theorem L_len (X : Fx p s m args c cc nL own Ts D cy q A H0) (hX : va_X b n xs s H0) (hbl : b < H0.size) (hbA : ¬ A b) (d : decode cc pc = .ok (.arraylength, 1)) (k : V p l e R s m args below meth c Q D cy q A H0 nL cl sl M (pc + 1) L (.int (nI n) :: st)) : V p l e R s m args below meth c Q D cy q A H0 nL cl sl M pc L (.ref b :: st) := fun H locs ls hP hS hl => va_slen X.1.1 X.1.2.1 hX hbl hbA hS d (k H locs ls hP hS hl)
theorem L_ld (X : Fx p s m args c cc nL own Ts D cy q A H0) (hX : va_X b n xs s H0) (hbl : b < H0.size) (hbA : ¬ A b) {x : Int32} (hin : vp_in x n) (d : decode cc pc = .ok (.iaload, 1)) (k : V p l e R s m args below meth c Q D cy q A H0 nL cl sl M (pc + 1) L (.int (xs x.toNatClampNeg) :: st)) : V p l e R s m args below meth c Q D cy q A H0 nL cl sl M pc L (.int x :: .ref b :: st) := fun H locs ls hP hS hl => va_sld X.1.1 X.1.2.1 hX hbl hbA hS hin d (k H locs ls hP hS hl)
theorem L_arg (X : Fx p s m args c cc nL own Ts D cy q A H0) (hn : n ≤ 3072) (hX : va_X b n xs s H0) (hbl : b < H0.size) (hbA : ¬ A b) {n0 : Int} (j : Nat) (hj : Int32.ofInt n0 = nI j) (hij : i + j < n) (d0 : decode cc pc = .ok (.aload_n 0, 1)) (d1 : decode cc (pc + 1) = .ok (.iload_n 3, 1)) (d2 : decode cc (pc + 2) = .ok (.iconst n0, 1)) (d3 : decode cc (pc + 3) = .ok (.iadd, 1)) (d4 : decode cc (pc + 4) = .ok (.iaload, 1)) (k : V p l e R s m args below meth c Q D cy q A H0 nL cl sl M (pc + 5) (LL b q i) (.int (xs (i + j)) :: st)) : V p l e R s m args below meth c Q D cy q A H0 nL cl sl M pc (LL b q i) st := by
  refine V_aload_n X d0 0 rfl rfl ?_
  refine V_iload_n X d1 3 rfl rfl ?_
  refine V_iconst X d2 hj ?_
  refine V_iadd X d3 ?_
  rw [nI_add]
  refine L_ld X hX hbl hbA (vp_in_nI hij (by omega)) d4 ?_
  rw [nI_clamp (by omega)]
  exact k
theorem L_same (X : Fx p s m args c cc nL own Ts D cy q A H0) {x : Int32} {off : Int} (tgt : Nat) (d : decode cc pc = .ok (.if_icmp .eq off, 3)) (ht : (pc : Int) + off = (tgt : Int)) (k : V p l e R s m args below meth c Q D cy q A H0 nL cl sl M tgt L st) : V p l e R s m args below meth c Q D cy q A H0 nL cl sl M pc L (.int x :: .int x :: st) := fun H locs ls hP hS hl => lv_icmp_eq X.1.1 X.1.2.1 d ht (fun _ => k H locs ls hP hS hl) (fun hc => absurd rfl hc)
theorem L_zero (X : Fx p s m args c cc nL own Ts D cy q A H0) {off : Int} (tgt : Nat) (d : decode cc pc = .ok (.ifCond .eq off, 3)) (ht : (pc : Int) + off = (tgt : Int)) (k : V p l e R s m args below meth c Q D cy q A H0 nL cl sl M tgt L st) : V p l e R s m args below meth c Q D cy q A H0 nL cl sl M pc L (.int 0 :: st) := fun H locs ls hP hS hl => lv_if_eq X.1.1 X.1.2.1 d ht (fun _ => k H locs ls hP hS hl) (fun hc => absurd rfl hc)
theorem L_gt (X : Fx p s m args c cc nL own Ts D cy q A H0) {x y : Int32} {off : Int} (tgt : Nat) (d : decode cc pc = .ok (.if_icmp .gt off, 3)) (ht : (pc : Int) + off = (tgt : Int)) (kt : y < x → V p l e R s m args below meth c Q D cy q A H0 nL cl sl M tgt L st) (kf : ¬ y < x → V p l e R s m args below meth c Q D cy q A H0 nL cl sl M (pc + 3) L st) : V p l e R s m args below meth c Q D cy q A H0 nL cl sl M pc L (.int y :: .int x :: st) := fun H locs ls hP hS hl => lv_icmp_gt X.1.1 X.1.2.1 d ht (fun hc => kt hc H locs ls hP hS hl) (fun hc => kf hc H locs ls hP hS hl)
end LAW
