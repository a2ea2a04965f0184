def jn {τ ρ : Type} (c : Option (τ ⊕ ρ)) (f : τ → Option ρ) : Option ρ := c.bind (Sum.elim f some)
def isB (v : Int32) : Bool := decide (v = 0) || decide (v = 1)
theorem isB_ok {v : Int32} (h : isB v = true) : narrow .boolean (.int v) = .int v := by
  unfold isB at h
  simp only [Bool.or_eq_true, decide_eq_true_eq] at h
  rcases h with rfl | rfl <;> rfl
theorem row_1 : isRow 1 := by unfold isRow; omega
theorem row_11 : isRow 11 := by unfold isRow; omega
theorem tly_33 : isTly 33 := by unfold isTly; omega
theorem tly_35 : isTly 35 := by unfold isTly; omega
section VR
variable {p : Program} {l : Launch} {e : Env} {R : Room} {s : State} {m : MethodId} {args : Array Value} {below : List Frame} {meth : Method} {c : Code} {Q : State → Prop} {D : va_G} {cy : Nat → ClassId} {q : Nat → Nat} {A : Nat → Prop} {H0 : Heap} {nL cl sl : Nat} {M M' : Mm} {pc : Nat} {L L' : List (Nat × Value)} {st : List Value} {cc : ByteArray} {own : String} {Ts : List Cond} {c0 : Cond}
theorem Fx.gw (X : Fx p s m args c cc nL own (c0 :: gw) D cy q A H0) : Fx p s m args c cc nL own gw D cy q A H0 :=
  ⟨⟨X.1.1, X.1.2.1, X.1.2.2.1, X.1.2.2.2.1, fun w h => X.1.2.2.2.2 w (List.mem_cons_of_mem _ h)⟩, X.2⟩
theorem V_loop {σ ρ : Type} {body : σ → Option (σ ⊕ ρ)} {P : ρ → Prop} {n : Nat} {s0 : σ} (X : Fx p s m args c cc nL own Ts D cy q A H0) (h : Ok (lpf body n s0) P) (hM : σ → Mm) (hL : σ → List (Nat × Value)) (eM : hM s0 = M) (eL : hL s0 = L)
    (step : ∀ z, Ok (body z) (Sum.elim (fun z => V p l e R s m args below meth c Q D cy q A H0 nL cl sl (hM z) pc (hL z) []) P) → V p l e R s m args below meth c Q D cy q A H0 nL cl sl (hM z) pc (hL z) []) : V p l e R s m args below meth c Q D cy q A H0 nL cl sl M pc L [] := by
  subst eM
  subst eL
  exact Ok.loop h (fun z => V p l e R s m args below meth c Q D cy q A H0 nL cl sl (hM z) pc (hL z) []) step
theorem V_join {τ ρ : Type} {co : Option (τ ⊕ ρ)} {f : τ → Option ρ} {P : ρ → Prop} (X : Fx p s m args c cc nL own Ts D cy q A H0) (h : Ok (jn co f) P) (hM : τ → Mm) (hL : τ → List (Nat × Value)) (hS : τ → List Value) (J : Nat)
    (k : ∀ z, Ok (f z) P → V p l e R s m args below meth c Q D cy q A H0 nL cl sl (hM z) J (hL z) (hS z))
    (go : Ok co (Sum.elim (fun z => V p l e R s m args below meth c Q D cy q A H0 nL cl sl (hM z) J (hL z) (hS z)) P) → V p l e R s m args below meth c Q D cy q A H0 nL cl sl M pc L st) : V p l e R s m args below meth c Q D cy q A H0 nL cl sl M pc L st := by
  refine go ((Ok.bind (show Ok (co.bind (Sum.elim f some)) P from h)).mono ?_)
  intro a ha
  cases a with
  | inl z => exact k z ha
  | inr r => exact ha
end VR
