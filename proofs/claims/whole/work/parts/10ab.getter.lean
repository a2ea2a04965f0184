/-! a method that gives out what a field of a cell holds, called while cells are made -/
def KG (l : Launch) (y : MethodName) (ws : List Cond) (rm : Room) (D : va_G) (cy : Nat → ClassId) (av : List Value) (w0 : va_W) (g : Nat) : Prop := ∀ sz : Nat, Met l y ws rm (va_Pc av (fun U => U.heap.size = sz ∧ va_P D vwCl w0 U.heap ∧ Kd D cy U ∧ va_D (fun _ => True) w0)) (va_Qr (fun _ : Unit => True) (fun _ a t => a = g ∧ va_P D vwCl w0 t.heap) (va_A w0 sz)) 0 0 (va_A w0 sz)
theorem KG.mk {l : Launch} {y : MethodName} {rm : Room} {D : va_G} {cy : Nat → ClassId} {av : List Value} {w0 : va_W} {g : Nat} {cc : ByteArray} {maxL : Nat} {rt : FieldType} {L0 : List (Nat × Value)} (hy : plainName y.cls = true) (hml : (lg_sl av).length ≤ maxL) (hL : lv_args 0 av = L0)
    (body : ∀ (p : Program) (e : Env) (s : State) (m : MethodId) (below : List Frame) (meth : Method) (c : Code), Fy p s m av.toArray c cc maxL y.cls D cy (va_A w0 s.heap.size) s.heap → meth.sig.returnType = some rt → meth.locks = false → UJ p l e rm s m av.toArray below meth c (MQ below (va_Qr (fun _ : Unit => True) (fun _ a t => a = g ∧ va_P D vwCl w0 t.heap) (va_A w0 s.heap.size)) av.toArray s 0 0 (va_A w0 s.heap.size)) D (va_A w0 s.heap.size) s.heap maxL 0 0 w0 0 L0 []) : KG l y (Cond.code y cc maxL (some rt) :: gw) rm D cy av w0 g := by
  intro sz
  refine Met.ofW (cc := cc) (maxL := maxL) (ret := some rt) hy rfl ?_
  intro p e s m args below meth c s₁ B hml0 hv
  obtain ⟨rfl, hsz, hP, hK, hD⟩ := hv
  have hts := atoms_spec (ws := Cond.code y cc maxL (some rt) :: gw) B.pre
  subst hsz
  rw [lg_entry_eq]
  exact body p e s m below meth c ⟨⟨B.exec, B.bytes, hml0, findClass_of_methodNamed B.named, fun w hw => hts w (List.mem_cons_of_mem _ hw)⟩, hK, fun x hx => Or.inr hx⟩ B.returns B.notSynchronized s.heap [] _ hP hD.self va_S.rf (by rw [← hL]; exact lv_entry av hml)
section UG
variable {p : Program} {l : Launch} {e : Env} {R : Room} {s : State} {m : MethodId} {args : Array Value} {below : List Frame} {meth : Method} {c : Code} {Q : State → Prop} {D : va_G} {cy : Nat → ClassId} {A : Nat → Prop} {H0 : Heap} {nL cl sl : Nat} {ws : va_W} {pc : Nat} {L : List (Nat × Value)} {st : List Value} {cc : ByteArray} {own : String}
theorem U_rret {w0 : va_W} {g : Nat} {rt : String} (X : Fy p s m args c cc nL own D cy A s.heap) (hr : meth.sig.returnType = some (.object rt)) (hlk : meth.locks = false) (hw : ws = w0) (d : decode cc pc = .ok (.areturn, 1)) : UJ p l e R s m args below meth c (MQ below (va_Qr (fun _ : Unit => True) (fun _ a t => a = g ∧ va_P D vwCl w0 t.heap) A) args s cl sl A) D A s.heap nL cl sl ws pc L [.ref g] := fun H locs ls hP hD hS hl => by
  subst hw
  exact W.aret X.1.1 X.1.2.1 hr (Or.inl ⟨rt, rfl⟩) (Or.inr ⟨g, rfl⟩) (fun t ht _ => ⟨⟨(), g, rfl, trivial, rfl, by rw [ht]; exact hP⟩, hS.F ht⟩) hS.2.2 d
theorem U_getr {y : MethodName} {bytes : ByteArray} {maxL idx b g : Nat} {wsc : List Cond} {rm : Room} {rt : FieldType} {C : String} {T : u_T} {N ci : Nat} {fs : List Value} (X : Fy p s m args c cc nL own D cy A H0) (q0 : Nat) (he : ws[q0]? = some (b, .inr (ci, fs))) (hc : vwCl[ci]? = some (C, T, N)) (cw : CallW R s args own C idx y bytes maxL (some rt) wsc rm 0 0 0) (hM : KG l y wsc rm D cy [.ref b] ws g) (hcat : (st.map fun v => v.category).sum ≤ 8) (hf : cl + 0 ≤ R.cells ∧ sl + 0 ≤ R.slots) (d : decode cc pc = .ok (.invokevirtual idx, 3)) (kk : UJ p l e R s m args below meth c Q D A H0 nL cl sl ws (pc + 3) L (.ref g :: st)) : UJ p l e R s m args below meth c Q D A H0 nL cl sl ws pc L (.ref b :: st) := fun H locs ls hP hD hS hl => by
  have hA : ∀ x : Nat, va_A ws H.size x → A x := by
    intro x h
    rcases h with ⟨k, e, h⟩ | h
    · exact hD.2 k (x, e) h
    · exact X.2.2 x (Nat.le_trans hS.1 h)
  exact va_callr (va_runV (As := []) X.1 (hM H.size) cw ⟨fun a U g mk q => ⟨q.1, q.2.1, q.2.2.1, Kd.moved (u := U) (U := U.calling g mk a) (Vm.Alike.refl U.vm) q.2.2.2.1, q.2.2.2.2⟩, va_recv X.2.1.1 hP hc he, fun U hU hW => ⟨rfl, by rw [hU], by rw [hU]; exact hP, Kd.moved hW.alike X.2.1, hD.weaken (fun _ _ _ _ => trivial)⟩⟩ rfl rfl hl.1 rfl (lv_room hcat) d hf) hS (fun x _ h => hA x h) hA (fun u ra t H1 locs1 ht hvm hp hB hz hk hS1 => by obtain ⟨rfl, hB⟩ := hB; exact kk H1 locs1 ls (by rw [← ht]; exact hB) hD hS1 hl)
end UG
set_option maxRecDepth 100000 in
set_option maxHeartbeats 4000000 in
/-- the player's text, of any world that holds a player -/
theorem c_X2_text (l : Launch) (D : va_G) (cy : Nat → ClassId) (w0 : va_W) (q0 : Nat) {a g : Nat} {fs : List Value} (he : w0[q0]? = some (a, .inr (2, fs))) (hv : fs[0]? = some (.ref g)) : KG l yX2_text (Cond.code yX2_text cX2_text 1 (Option.some (FieldType.object "BitLevels$Text")) :: gw) rm_X2_text D cy [.ref a] w0 g := by
  refine KG.mk (L0 := [(0, .ref a)]) (by decide +kernel) (Nat.le_of_ble_eq_true rfl) rfl ?_
  intro p e s m below meth c X0 hr hlk
  have X : Fy p s m _ c cX2_text 1 RX2 D cy _ s.heap := X0
  clear X0
  refine U_aload_n X dX2_text_0 0 rfl rfl ?_
  refine U_get X inX2 q0 he rfl 0 (by decide) wFL_X2_12 hv dX2_text_1 ?_
  exact U_rret X hr hlk rfl dX2_text_4
