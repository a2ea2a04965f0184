theorem op_put {F : Nat} {r : Rw} {h : Nat} {H : Nat → Rw} {t : Rw} (hF : 300 ≤ F) (ho : okR r) (ot : okT t) (a b : Int32) : Op (f_X6_put F a b) (f_X7_put F a b) r h H t := by
  have hn := ho.1
  rcases le_cases a (n := r.1) (by omega) with ha | ⟨j, rfl, hj⟩
  · refine ⟨-1000001, r, h, H, t, ho, ot, fun M x => ?_, fun M x => ?_⟩
    · unfold f_X6_put f_X3_size
      rw [Option.bind_some, x.1.1, isAtMost_f ha, Option.bind_some, if_pos (by decide)]
      exact ⟨rfl, x, fun _ _ => rfl⟩
    · exact ref_err hF x (by decide) (fun M1 hq => by
        unfold f_X7_puts
        rw [if_pos (in0 (by omega)), cl0, hq.1, in_f0 ha, Option.bind_some, if_pos (by decide)])
  · rcases lt_cases b (n := 16) (by omega) with hb | ⟨c, rfl, hc⟩
    · refine ⟨-1000001, r, h, H, t, ho, ot, fun M x => ?_, fun M x => ?_⟩
      · unfold f_X6_put f_X3_size
        rw [Option.bind_some, x.1.1, isAtMost_t (by omega) hj, Option.bind_some, if_neg (by decide), isSymbol_f hb, Option.bind_some, if_pos (by decide)]
        exact ⟨rfl, x, fun _ _ => rfl⟩
      · exact ref_err hF x (by decide) (fun M1 hq => by
          unfold f_X7_puts
          rw [if_pos (in0 (by omega)), cl0, hq.1, in_t (by omega) (by omega) hj, Option.bind_some, if_neg (by decide), in_f0 (hb.imp id (fun h => lt_15 h)), Option.bind_some, if_pos (by decide)])
    · by_cases h60 : r.1 < 60
      · refine ⟨nI (r.1 + 1), (r.1 + 1, insF r.2 j c), pshN h, pshH h H r, t, ho.ins h60 hj hc, ot, fun M x => ?_, fun M x => ?_⟩
        · unfold f_X6_put f_X3_size
          rw [Option.bind_some, x.1.1, isAtMost_t (by omega) hj, Option.bind_some, if_neg (by decide), isSymbol_t hc, Option.bind_some, if_neg (by decide), Option.bind_some, if_pos (by simp (disch := omega) only [nI_leI, nI_ltI, nI_eq, nI_add, nI_clamp, pk_sub, pk_mul, nI_m1, nI_le0, nI_lt0, nI_0le, nI_0lt, nI_z, inb_nI, decide_eq_true_eq]; omega)]
          refine Ok.bindI (remember_t (by omega) x.2.1 x.1 ho (Or.inl rfl)) ?_
          rintro M1 ⟨y1, y2⟩
          refine Ok.bindI (insert_t (by omega) (x.1.keep (y2 1 (by omega) (by omega)) (y2 2 (by omega) (by omega))) h60 hj) ?_
          rintro M2 ⟨z1, z2⟩
          rw [Option.bind_some]
          exact ⟨z1.1, x.edit y1 y2 z1 z2⟩
        · exact ref_edit hF x ho (nI_not_err (by omega)) (fun M1 hq => puts_t (by omega) hq h60 hj hc)
      · refine ⟨-1000003, r, h, H, t, ho, ot, fun M x => ?_, fun M x => ?_⟩
        · unfold f_X6_put f_X3_size
          rw [Option.bind_some, x.1.1, isAtMost_t (by omega) hj, Option.bind_some, if_neg (by decide), isSymbol_t hc, Option.bind_some, if_neg (by decide), Option.bind_some, if_neg (by simp (disch := omega) only [nI_leI, nI_ltI, nI_eq, nI_add, nI_clamp, pk_sub, pk_mul, nI_m1, nI_le0, nI_lt0, nI_0le, nI_0lt, nI_z, inb_nI, decide_eq_true_eq]; omega)]
          exact ⟨rfl, x, fun _ _ => rfl⟩
        · exact ref_err hF x (by decide) (fun M1 hq => by
            unfold f_X7_puts
            rw [if_pos (in0 (by omega)), cl0, hq.1, in_t (by omega) (by omega) hj, Option.bind_some, if_neg (by decide), in_t (by omega) (by omega) (by omega), Option.bind_some, if_neg (by decide), if_pos (in0 (by omega)), if_pos (by simp (disch := omega) only [nI_leI, nI_ltI, nI_eq, nI_add, nI_clamp, pk_sub, pk_mul, nI_m1, nI_le0, nI_lt0, nI_0le, nI_0lt, nI_z, inb_nI, decide_eq_true_eq]; omega)])
theorem op_take {F : Nat} {r : Rw} {h : Nat} {H : Nat → Rw} {t : Rw} (hF : 300 ≤ F) (ho : okR r) (ot : okT t) (a : Int32) : Op (f_X6_take F a) (f_X7_take F a) r h H t := by
  have hn := ho.1
  rcases lt_cases a (n := r.1) (by omega) with ha | ⟨j, rfl, hj⟩
  · refine ⟨-1000001, r, h, H, t, ho, ot, fun M x => ?_, fun M x => ?_⟩
    · unfold f_X6_take
      rw [hasPlace_f x.1 ha, Option.bind_some, if_pos (by decide)]
      exact ⟨rfl, x, fun _ _ => rfl⟩
    · exact ref_err hF x (by decide) (fun M1 hq => by
        unfold f_X7_takes
        rw [isPlace_f hq hn ha, Option.bind_some, if_pos (by decide)])
  · have hs := ho.2 j hj
    refine ⟨nI (r.2 j), (r.1 - 1, remF r.2 j), pshN h, pshH h H r, t, ho.rem hj, ot, fun M x => ?_, fun M x => ?_⟩
    · unfold f_X6_take
      rw [hasPlace_t x.1 hn hj, Option.bind_some, if_neg (by decide), at_t x.1 hn hj, Option.bind_some]
      refine Ok.bindI (remember_t (by omega) x.2.1 x.1 ho (Or.inl rfl)) ?_
      rintro M1 ⟨y1, y2⟩
      refine Ok.bindI (remove_t (by omega) (x.1.keep (y2 1 (by omega) (by omega)) (y2 2 (by omega) (by omega))) hn hj) ?_
      rintro M2 ⟨z1, z2⟩
      exact ⟨rfl, x.edit y1 y2 z1 z2⟩
    · exact ref_edit hF x ho (nI_not_err (by omega)) (fun M1 hq => takes_t (by omega) hq hn hj)
theorem op_change {F : Nat} {r : Rw} {h : Nat} {H : Nat → Rw} {t : Rw} (hF : 300 ≤ F) (ho : okR r) (ot : okT t) (a b : Int32) : Op (f_X6_change F a b) (f_X7_change F a b) r h H t := by
  have hn := ho.1
  rcases lt_cases a (n := r.1) (by omega) with ha | ⟨j, rfl, hj⟩
  · refine Op.err (-1000001) ho ot (fun M x => ?_) (fun M x => ?_)
    · unfold f_X6_change
      rw [hasPlace_f x.1 ha, Option.bind_some, if_pos (by decide)]
    · unfold f_X7_change
      rw [isPlace_f x.1 hn ha, Option.bind_some, if_pos (by decide)]
  · have hs := ho.2 j hj
    rcases lt_cases b (n := 16) (by omega) with hb | ⟨c, rfl, hc⟩
    · refine Op.err (-1000001) ho ot (fun M x => ?_) (fun M x => ?_)
      · unfold f_X6_change
        rw [hasPlace_t x.1 hn hj, Option.bind_some, if_neg (by decide), isSymbol_f hb, Option.bind_some, if_pos (by decide)]
      · unfold f_X7_change
        rw [isPlace_t x.1 hn hj, Option.bind_some, if_neg (by decide), in_f0 (hb.imp id (fun h => lt_15 h)), Option.bind_some, if_pos (by decide)]
    · refine ⟨nI (r.2 j), (r.1, setF r.2 j c), pshN h, pshH h H r, t, ho.set hc, ot, fun M x => ?_, fun M x => ?_⟩
      · unfold f_X6_change
        rw [hasPlace_t x.1 hn hj, Option.bind_some, if_neg (by decide), isSymbol_t hc, Option.bind_some, if_neg (by decide), at_t x.1 hn hj, Option.bind_some]
        refine Ok.bindI (remember_t (by omega) x.2.1 x.1 ho (Or.inl rfl)) ?_
        rintro M1 ⟨y1, y2⟩
        refine Ok.bindI (replace_t (x.1.keep (y2 1 (by omega) (by omega)) (y2 2 (by omega) (by omega))) hn hj) ?_
        rintro M2 ⟨z1, z2⟩
        exact ⟨rfl, x.edit y1 y2 z1 z2⟩
      · unfold f_X7_change
        rw [isPlace_t x.1 hn hj, Option.bind_some, if_neg (by decide), in_t (by omega) (by omega) (by omega), Option.bind_some, if_neg (by decide)]
        have key := ref_edit (F := F) (r' := (r.1, setF r.2 j c)) (v := nI (r.2 j)) (om := fun r5 => some (r5 41 (1 + j), up r5 41 (1 + j) (nI c))) hF x ho (nI_not_err (by omega)) (fun M1 hq => ?_)
        · refine Ok.bindI (P := fun M1 => f_X7_keeps F M = some M1) (by obtain ⟨M1, e, -⟩ := (keeps_t (M := M) (show 100 ≤ F by omega)).ex; rw [e]; rfl) ?_
          intro M1 e
          rw [e, Option.bind_some] at key
          simp (disch := omega) only [nI_leI, nI_ltI, nI_eq, nI_add, nI_clamp, pk_sub, pk_mul, nI_m1, nI_le0, nI_lt0, nI_0le, nI_0lt, nI_z, inb_nI, decide_eq_true_eq]
          rw [if_pos (by omega), if_pos (by omega)]
          exact key
        · refine ⟨hq.el hj, ⟨?_, fun i hi => ?_⟩, fun k g => up_n g⟩
          · show up M1 41 (1 + j) _ 41 0 = _
            rw [up_sn (by omega)]
            exact hq.1
          · show up M1 41 (1 + j) _ 41 (0 + 1 + i) = _
            dsimp only at hi ⊢
            unfold setF
            rw [show 0 + 1 + i = 1 + i by omega]
            by_cases hi2 : i = j
            · subst hi2
              rw [up_ss, if_pos rfl]
            · rw [up_sn (by omega), if_neg hi2]
              exact hq.el hi
theorem op_swap {F : Nat} {r : Rw} {h : Nat} {H : Nat → Rw} {t : Rw} (hF : 300 ≤ F) (ho : okR r) (ot : okT t) (a b : Int32) : Op (f_X6_swap F a b) (f_X7_swap F a b) r h H t := by
  have hn := ho.1
  rcases lt_cases a (n := r.1) (by omega) with ha | ⟨i, rfl, hi⟩
  · refine ⟨-1000001, r, h, H, t, ho, ot, fun M x => ?_, fun M x => ?_⟩
    · unfold f_X6_swap
      rw [hasPlace_f x.1 ha, Option.bind_some, if_pos (by decide)]
      exact ⟨rfl, x, fun _ _ => rfl⟩
    · exact ref_err hF x (by decide) (fun M1 hq => by
        unfold f_X7_swaps
        rw [isPlace_f hq hn ha, Option.bind_some, if_pos (by decide)])
  · rcases lt_cases b (n := r.1) (by omega) with hb | ⟨j, rfl, hj⟩
    · refine ⟨-1000001, r, h, H, t, ho, ot, fun M x => ?_, fun M x => ?_⟩
      · unfold f_X6_swap
        rw [hasPlace_t x.1 hn hi, Option.bind_some, if_neg (by decide), hasPlace_f x.1 hb, Option.bind_some, if_pos (by decide)]
        exact ⟨rfl, x, fun _ _ => rfl⟩
      · exact ref_err hF x (by decide) (fun M1 hq => by
          unfold f_X7_swaps
          rw [isPlace_t hq hn hi, Option.bind_some, if_neg (by decide), isPlace_f hq hn hb, Option.bind_some, if_pos (by decide)])
    · have s1 := ho.2 i hi
      have s2 := ho.2 j hj
      refine ⟨nI (if r.2 i = r.2 j then 0 else 1), (r.1, swpF r.2 i j), pshN h, pshH h H r, t, ho.swp hi hj, ot, fun M x => ?_, fun M x => ?_⟩
      · unfold f_X6_swap
        rw [hasPlace_t x.1 hn hi, Option.bind_some, if_neg (by decide), hasPlace_t x.1 hn hj, Option.bind_some, if_neg (by decide), at_t x.1 hn hi, Option.bind_some, at_t x.1 hn hj, Option.bind_some]
        refine Ok.jnI ?_
        have key : Ok ((f_X0_remember F 1 M).bind fun r10 => (f_X3_exchange 1 (nI i) (nI j) r10).bind fun r12 => some (nI (if r.2 i = r.2 j then 0 else 1), r12)) (fun z => z.1 = nI (if r.2 i = r.2 j then 0 else 1) ∧ Cls z.2 (r.1, swpF r.2 i j) (pshN h) (pshH h H r) t ∧ ∀ k, 40 ≤ k → z.2 k = M k) := by
          refine Ok.bindI (remember_t (by omega) x.2.1 x.1 ho (Or.inl rfl)) ?_
          rintro M1 ⟨y1, y2⟩
          refine Ok.bindI (exchange_t (x.1.keep (y2 1 (by omega) (by omega)) (y2 2 (by omega) (by omega))) hn hi hj) ?_
          rintro M2 ⟨z1, z2⟩
          exact ⟨rfl, x.edit y1 y2 z1 z2⟩
        simp (disch := omega) only [nI_leI, nI_ltI, nI_eq, nI_add, nI_clamp, pk_sub, pk_mul, nI_m1, nI_le0, nI_lt0, nI_0le, nI_0lt, nI_z, inb_nI, decide_eq_true_eq]
        by_cases hf : r.2 i = r.2 j
        · have e9 : (if r.2 i = r.2 j then 0 else 1) = (0 : Nat) := if_pos hf
          rw [e9] at key ⊢
          rw [if_pos hf]
          exact key
        · have e9 : (if r.2 i = r.2 j then 0 else 1) = (1 : Nat) := if_neg hf
          rw [e9] at key ⊢
          rw [if_neg hf]
          exact key
      · exact ref_edit hF x ho (nI_not_err (by split <;> omega)) (fun M1 hq => swaps_t hq ho hi hj)
