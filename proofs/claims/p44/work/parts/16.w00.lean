/-! methods as functions: 16.w 0 -/
def fW_law_b2191 (G : qp_G)  (k2165 : Int32 → Int32 → Int32 → Int32 → Int32 → (Nat → Nat → Int32) → (Nat → Nat → Int64) → Option Unit) (a3 : Int32) (a4 : Int32) (a10 : Int32) (a27 : Int32) (a28 : Int32) (s0 : Int32) (s1 : Int32) (I : Nat → Nat → Int32) (J : Nat → Nat → Int64) : Option Unit :=
  if ¬ s1 = s0 then (
    none
  ) else (
    qp_bd (fX_who 0 I J) fun v1 I1 J1 =>
    qp_gd ((0 ≤ a28 ∧ a28 < 16)) <|
    if ¬ v1 = ((qp_g I I1) 39 (Int32.toNatClampNeg a28)) then (
      none
    ) else (
      qp_bd (fX_count 5 (qp_g I I1) J1) fun v2 I2 J2 =>
      qp_gd ((0 ≤ a28 ∧ a28 < 16)) <|
      if v2 = ((qp_g (qp_g I I1) I2) 40 (Int32.toNatClampNeg a28)) then (
        k2165 a3 a4 a10 a27 (a28 + (-1)) (qp_g (qp_g I I1) I2) J2
      ) else (
        none
      )
    )
  )
set_option maxRecDepth 8000 in
theorem gW_law_b2191 {l : Launch} {G : qp_G}   (k2165 : Int32 → Int32 → Int32 → Int32 → Int32 → (Nat → Nat → Int32) → (Nat → Nat → Int64) → Option Unit) (hk2165 : ∀ a3 a4 a10 a27 a28 I J, k2165 a3 a4 a10 a27 a28 I J = some () → lw_E l G (2165, [none, some (.ref 0), none, some (.int a3), some (.int a4), none, none, none, none, none, some (.int a10), none, none, none, none, none, none, none, none, none, none, none, none, none, none, some (.ref 39), some (.ref 40), some (.int a27), some (.int a28), none, none, none], [], qp_mkE 41 3062 I J)) : ∀ (a3 : Int32) (a4 : Int32) (a10 : Int32) (a27 : Int32) (a28 : Int32) (s0 : Int32) (s1 : Int32) (I : Nat → Nat → Int32) (J : Nat → Nat → Int64), fW_law_b2191 G k2165 a3 a4 a10 a27 a28 s0 s1 I J = some () → lw_E l G (2191, [none, some (.ref 0), none, some (.int a3), some (.int a4), none, none, none, none, none, some (.int a10), none, none, none, none, none, none, none, none, none, none, none, none, none, none, some (.ref 39), some (.ref 40), some (.int a27), some (.int a28), none, none, none], [.int s0, .int s1], qp_mkE 41 3062 I J) := by
  have hd1 : True := trivial
  intro a3 a4 a10 a27 a28 s0 s1 I J h
  unfold fW_law_b2191 at h
  refine lw_br_L qp_fx34 (e := ( .if_icmp .ne 29, 0, 2220)) (f := ¬ s1 = s0) (ct := (2220, [none, some (.ref 0), none, some (.int a3), some (.int a4), none, none, none, none, none, some (.int a10), none, none, none, none, none, none, none, none, none, none, none, none, none, none, some (.ref 39), some (.ref 40), some (.int a27), some (.int a28), none, none, none], [], qp_mkE 41 3062 I J)) (cf := (2194, [none, some (.ref 0), none, some (.int a3), some (.int a4), none, none, none, none, none, some (.int a10), none, none, none, none, none, none, none, none, none, none, none, none, none, none, some (.ref 39), some (.ref 40), some (.int a27), some (.int a28), none, none, none], [], qp_mkE 41 3062 I J)) rfl (by with_unfolding_all rfl) (fun h1 => ?_) (fun h1 => ?_)
  · replace h := qp_ift h1 h
    exact absurd h (by simp)
  · replace h := qp_iff h1 h
    refine lw_run_L [(2194, .aload_n 1, 0, 0), (2195, .iconst 0, 0, 0)] (c' := (2196, [none, some (.ref 0), none, some (.int a3), some (.int a4), none, none, none, none, none, some (.int a10), none, none, none, none, none, none, none, none, none, none, none, none, none, none, some (.ref 39), some (.ref 40), some (.int a27), some (.int a28), none, none, none], [.int 0, .ref 0], qp_mkE 41 3062 I J)) (by decide +kernel) (by with_unfolding_all rfl) (by exact ⟨rfl, rfl, trivial⟩) trivial ?_
    obtain ⟨v1, I1, J1, e1, h⟩ := qp_bd_s h
    refine lw_cVF qp_fx34 (rest := []) (oj := 0) qp_f62 rfl rfl (qp_lift (by decide) (gX_who l G 0 I J e1 (Nat.le_refl 2))) rfl rfl rfl rfl (by decide) ?_
    obtain ⟨h2, h⟩ := qp_gd_s h
    refine lw_run_L [(2199, .aload 25, 0, 0), (2201, .iload 28, 0, 0), (2203, .iaload, 0, 0)] (f := vp_in a28 16 ∧ True) (c' := (2204, [none, some (.ref 0), none, some (.int a3), some (.int a4), none, none, none, none, none, some (.int a10), none, none, none, none, none, none, none, none, none, none, none, none, none, none, some (.ref 39), some (.ref 40), some (.int a27), some (.int a28), none, none, none], [.int ((qp_g I I1) 39 (Int32.toNatClampNeg a28)), .int v1], qp_mkE 41 3062 (qp_g I I1) J1)) (by decide +kernel) (by with_unfolding_all rfl) (by exact ⟨rfl, rfl, rfl, trivial⟩) ⟨(qp_vin (c := 16) (by decide) h2.1 h2.2), trivial⟩ ?_
    refine lw_br_L qp_fx34 (e := ( .if_icmp .ne 16, 0, 2220)) (f := ¬ v1 = ((qp_g I I1) 39 (Int32.toNatClampNeg a28))) (ct := (2220, [none, some (.ref 0), none, some (.int a3), some (.int a4), none, none, none, none, none, some (.int a10), none, none, none, none, none, none, none, none, none, none, none, none, none, none, some (.ref 39), some (.ref 40), some (.int a27), some (.int a28), none, none, none], [], qp_mkE 41 3062 (qp_g I I1) J1)) (cf := (2207, [none, some (.ref 0), none, some (.int a3), some (.int a4), none, none, none, none, none, some (.int a10), none, none, none, none, none, none, none, none, none, none, none, none, none, none, some (.ref 39), some (.ref 40), some (.int a27), some (.int a28), none, none, none], [], qp_mkE 41 3062 (qp_g I I1) J1)) rfl (by with_unfolding_all rfl) (fun h3 => ?_) (fun h3 => ?_)
    · replace h := qp_ift h3 h
      exact absurd h (by simp)
    · replace h := qp_iff h3 h
      refine lw_run_L [(2207, .aload_n 1, 0, 0), (2208, .iconst 5, 5, 0)] (c' := (2209, [none, some (.ref 0), none, some (.int a3), some (.int a4), none, none, none, none, none, some (.int a10), none, none, none, none, none, none, none, none, none, none, none, none, none, none, some (.ref 39), some (.ref 40), some (.int a27), some (.int a28), none, none, none], [.int 5, .ref 0], qp_mkE 41 3062 (qp_g I I1) J1)) (by decide +kernel) (by with_unfolding_all rfl) (by exact ⟨rfl, rfl, trivial⟩) trivial ?_
      obtain ⟨v2, I2, J2, e2, h⟩ := qp_bd_s h
      refine lw_cVF qp_fx34 (rest := []) (oj := 0) qp_f121 rfl rfl (qp_lift (by decide) (gX_count l G 5 (qp_g I I1) J1 e2 (Nat.le_refl 6))) rfl rfl rfl rfl (by decide) ?_
      obtain ⟨h4, h⟩ := qp_gd_s h
      refine lw_run_L [(2212, .aload 26, 0, 0), (2214, .iload 28, 0, 0), (2216, .iaload, 0, 0)] (f := vp_in a28 16 ∧ True) (c' := (2217, [none, some (.ref 0), none, some (.int a3), some (.int a4), none, none, none, none, none, some (.int a10), none, none, none, none, none, none, none, none, none, none, none, none, none, none, some (.ref 39), some (.ref 40), some (.int a27), some (.int a28), none, none, none], [.int ((qp_g (qp_g I I1) I2) 40 (Int32.toNatClampNeg a28)), .int v2], qp_mkE 41 3062 (qp_g (qp_g I I1) I2) J2)) (by decide +kernel) (by with_unfolding_all rfl) (by exact ⟨rfl, rfl, rfl, trivial⟩) ⟨(qp_vin (c := 16) (by decide) h4.1 h4.2), trivial⟩ ?_
      refine lw_br_L qp_fx34 (e := ( .if_icmp .eq 5, 0, 2222)) (f := v2 = ((qp_g (qp_g I I1) I2) 40 (Int32.toNatClampNeg a28))) (ct := (2222, [none, some (.ref 0), none, some (.int a3), some (.int a4), none, none, none, none, none, some (.int a10), none, none, none, none, none, none, none, none, none, none, none, none, none, none, some (.ref 39), some (.ref 40), some (.int a27), some (.int a28), none, none, none], [], qp_mkE 41 3062 (qp_g (qp_g I I1) I2) J2)) (cf := (2220, [none, some (.ref 0), none, some (.int a3), some (.int a4), none, none, none, none, none, some (.int a10), none, none, none, none, none, none, none, none, none, none, none, none, none, none, some (.ref 39), some (.ref 40), some (.int a27), some (.int a28), none, none, none], [], qp_mkE 41 3062 (qp_g (qp_g I I1) I2) J2)) rfl (by with_unfolding_all rfl) (fun h5 => ?_) (fun h5 => ?_)
      · replace h := qp_ift h5 h
        refine lw_run_L [(2222, .iinc 28 (-1), (-1), 0), (2225, .goto (-60), 0, 2165)] (c' := (2165, [none, some (.ref 0), none, some (.int a3), some (.int a4), none, none, none, none, none, some (.int a10), none, none, none, none, none, none, none, none, none, none, none, none, none, none, some (.ref 39), some (.ref 40), some (.int a27), some (.int (a28 + (-1))), none, none, none], [], qp_mkE 41 3062 (qp_g (qp_g I I1) I2) J2)) (by decide +kernel) (by with_unfolding_all rfl) (by exact ⟨rfl, rfl, trivial⟩) trivial ?_
        exact hk2165 a3 a4 a10 a27 (a28 + (-1)) (qp_g (qp_g I I1) I2) J2 h
      · replace h := qp_iff h5 h
        exact absurd h (by simp)
def fW_law_b2165 (G : qp_G)  : Nat → Int32 → Int32 → Int32 → Int32 → Int32 → (Nat → Nat → Int32) → (Nat → Nat → Int64) → Option Unit
  | 0, _, _, _, _, _, _, _ => none
  | n + 1, a3, a4, a10, a27, a28, I, J =>
    if a28 < 0 then (
      qp_bd (fX_digest I J) fun v1 I1 J1 =>
      qp_bd (fX_undo 0 (qp_g I I1) J1) fun v2 I2 J2 =>
      if ¬ v2 = a4 then (
        none
      ) else (
        qp_bd (fX_count 2 (qp_g (qp_g I I1) I2) J2) fun v3 I3 J3 =>
        if ¬ v3 = 0 then (
          none
        ) else (
          qp_bd (fX_who (a3 - 1) (qp_g (qp_g (qp_g I I1) I2) I3) J3) fun v4 I4 J4 =>
          if ¬ v4 = (a3 - 1) then (
            none
          ) else (
            qp_bd (fX_on 0 (qp_g (qp_g (qp_g (qp_g I I1) I2) I3) I4) J4) fun v5 I5 J5 =>
            if ¬ v5 = a4 then (
              none
            ) else (
              qp_bd (fX_digest (qp_g (qp_g (qp_g (qp_g (qp_g I I1) I2) I3) I4) I5) J5) fun v6 I6 J6 =>
              if ¬ (lg_cmp v6 v1) = 0 then (
                none
              ) else (
                qp_bd (fX_line 0 (qp_g (qp_g (qp_g (qp_g (qp_g (qp_g I I1) I2) I3) I4) I5) I6) J6) fun v7 I7 J7 =>
                if ¬ v7 = a3 then (
                  none
                ) else (
                  qp_bd (fX_on 0 (qp_g (qp_g (qp_g (qp_g (qp_g (qp_g (qp_g I I1) I2) I3) I4) I5) I6) I7) J7) fun v8 I8 J8 =>
                  if ¬ v8 = (-3) then (
                    none
                  ) else (
                    qp_bd (fX_count 3 (qp_g (qp_g (qp_g (qp_g (qp_g (qp_g (qp_g (qp_g I I1) I2) I3) I4) I5) I6) I7) I8) J8) fun v9 I9 J9 =>
                    if ¬ v9 = 0 then (
                      none
                    ) else (
                      qp_bd (fW_bits a10 (qp_g (qp_g (qp_g (qp_g (qp_g (qp_g (qp_g (qp_g (qp_g I I1) I2) I3) I4) I5) I6) I7) I8) I9) J9) fun v10 I10 J10 =>
                      if ¬ v10 = a3 then (
                        none
                      ) else (
                        some ()
                      )
                    )
                  )
                )
              )
            )
          )
        )
      )
    ) else (
      qp_bd (fX_undo (a4 + a28) I J) fun v11 I11 J11 =>
      if ¬ a28 = a27 then (
        fW_law_b2191 G (fun a0 a1 a2 a3 a4 I J => fW_law_b2165 G n a0 a1 a2 a3 a4 I J) a3 a4 a10 a27 a28 1 v11 (qp_g I I11) J11
      ) else (
        fW_law_b2191 G (fun a0 a1 a2 a3 a4 I J => fW_law_b2165 G n a0 a1 a2 a3 a4 I J) a3 a4 a10 a27 a28 0 v11 (qp_g I I11) J11
      )
    )
set_option maxRecDepth 8000 in
theorem gW_law_b2165 {l : Launch} {G : qp_G}    : ∀ (n : Nat) (a3 : Int32) (a4 : Int32) (a10 : Int32) (a27 : Int32) (a28 : Int32) (I : Nat → Nat → Int32) (J : Nat → Nat → Int64), fW_law_b2165 G  n a3 a4 a10 a27 a28 I J = some () → lw_E l G (2165, [none, some (.ref 0), none, some (.int a3), some (.int a4), none, none, none, none, none, some (.int a10), none, none, none, none, none, none, none, none, none, none, none, none, none, none, some (.ref 39), some (.ref 40), some (.int a27), some (.int a28), none, none, none], [], qp_mkE 41 3062 I J) := by
  have hd1 : True := trivial
  intro n
  induction n with
  | zero => intro a3 a4 a10 a27 a28 I J h; exact absurd h (by simp [fW_law_b2165])
  | succ n ih =>
    intro a3 a4 a10 a27 a28 I J h
    rw [fW_law_b2165] at h
    refine lw_run_L [(2165, .iload 28, 0, 0)] (c' := (2167, [none, some (.ref 0), none, some (.int a3), some (.int a4), none, none, none, none, none, some (.int a10), none, none, none, none, none, none, none, none, none, none, none, none, none, none, some (.ref 39), some (.ref 40), some (.int a27), some (.int a28), none, none, none], [.int a28], qp_mkE 41 3062 I J)) (by decide +kernel) (by with_unfolding_all rfl) (by exact ⟨rfl, trivial⟩) trivial ?_
    refine lw_br_L qp_fx33 (e := ( .ifCond .lt 61, 0, 2228)) (f := a28 < 0) (ct := (2228, [none, some (.ref 0), none, some (.int a3), some (.int a4), none, none, none, none, none, some (.int a10), none, none, none, none, none, none, none, none, none, none, none, none, none, none, some (.ref 39), some (.ref 40), some (.int a27), some (.int a28), none, none, none], [], qp_mkE 41 3062 I J)) (cf := (2170, [none, some (.ref 0), none, some (.int a3), some (.int a4), none, none, none, none, none, some (.int a10), none, none, none, none, none, none, none, none, none, none, none, none, none, none, some (.ref 39), some (.ref 40), some (.int a27), some (.int a28), none, none, none], [], qp_mkE 41 3062 I J)) rfl (by with_unfolding_all rfl) (fun h1 => ?_) (fun h1 => ?_)
    · replace h := qp_ift h1 h
      refine lw_run_L [(2228, .aload_n 1, 0, 0)] (c' := (2229, [none, some (.ref 0), none, some (.int a3), some (.int a4), none, none, none, none, none, some (.int a10), none, none, none, none, none, none, none, none, none, none, none, none, none, none, some (.ref 39), some (.ref 40), some (.int a27), some (.int a28), none, none, none], [.ref 0], qp_mkE 41 3062 I J)) (by decide +kernel) (by with_unfolding_all rfl) (by exact ⟨rfl, trivial⟩) trivial ?_
      obtain ⟨v1, I1, J1, e1, h⟩ := qp_bd_s h
      refine lw_cVF qp_fx34 (rest := []) (oj := 0) qp_f125 rfl rfl (qp_lift (by decide) (gX_digest l G I J e1 (Nat.le_refl 6))) rfl rfl rfl rfl (by decide) ?_
      refine lw_run_L [(2232, .lstore 28, 0, 0), (2234, .aload_n 1, 0, 0), (2235, .iconst 0, 0, 0)] (c' := (2236, [none, some (.ref 0), none, some (.int a3), some (.int a4), none, none, none, none, none, some (.int a10), none, none, none, none, none, none, none, none, none, none, none, none, none, none, some (.ref 39), some (.ref 40), some (.int a27), some (.long v1), none, none, none], [.int 0, .ref 0], qp_mkE 41 3062 (qp_g I I1) J1)) (by decide +kernel) (by with_unfolding_all rfl) (by exact ⟨rfl, rfl, rfl, trivial⟩) trivial ?_
      obtain ⟨v2, I2, J2, e2, h⟩ := qp_bd_s h
      refine lw_cVF qp_fx34 (rest := []) (oj := 0) qp_f57 rfl rfl (qp_lift (by decide) (gX_undo l G 0 (qp_g I I1) J1 e2 (Nat.le_refl 7))) rfl rfl rfl rfl (by decide) ?_
      refine lw_run_L [(2239, .iload 4, 0, 0)] (c' := (2241, [none, some (.ref 0), none, some (.int a3), some (.int a4), none, none, none, none, none, some (.int a10), none, none, none, none, none, none, none, none, none, none, none, none, none, none, some (.ref 39), some (.ref 40), some (.int a27), some (.long v1), none, none, none], [.int a4, .int v2], qp_mkE 41 3062 (qp_g (qp_g I I1) I2) J2)) (by decide +kernel) (by with_unfolding_all rfl) (by exact ⟨rfl, trivial⟩) trivial ?_
      refine lw_br_L qp_fx35 (e := ( .if_icmp .ne 84, 0, 2325)) (f := ¬ v2 = a4) (ct := (2325, [none, some (.ref 0), none, some (.int a3), some (.int a4), none, none, none, none, none, some (.int a10), none, none, none, none, none, none, none, none, none, none, none, none, none, none, some (.ref 39), some (.ref 40), some (.int a27), some (.long v1), none, none, none], [], qp_mkE 41 3062 (qp_g (qp_g I I1) I2) J2)) (cf := (2244, [none, some (.ref 0), none, some (.int a3), some (.int a4), none, none, none, none, none, some (.int a10), none, none, none, none, none, none, none, none, none, none, none, none, none, none, some (.ref 39), some (.ref 40), some (.int a27), some (.long v1), none, none, none], [], qp_mkE 41 3062 (qp_g (qp_g I I1) I2) J2)) rfl (by with_unfolding_all rfl) (fun h2 => ?_) (fun h2 => ?_)
      · replace h := qp_ift h2 h
        exact absurd h (by simp)
      · replace h := qp_iff h2 h
        refine lw_run_L [(2244, .aload_n 1, 0, 0), (2245, .iconst 2, 2, 0)] (c' := (2246, [none, some (.ref 0), none, some (.int a3), some (.int a4), none, none, none, none, none, some (.int a10), none, none, none, none, none, none, none, none, none, none, none, none, none, none, some (.ref 39), some (.ref 40), some (.int a27), some (.long v1), none, none, none], [.int 2, .ref 0], qp_mkE 41 3062 (qp_g (qp_g I I1) I2) J2)) (by decide +kernel) (by with_unfolding_all rfl) (by exact ⟨rfl, rfl, trivial⟩) trivial ?_
        obtain ⟨v3, I3, J3, e3, h⟩ := qp_bd_s h
        refine lw_cVF qp_fx35 (rest := []) (oj := 0) qp_f121 rfl rfl (qp_lift (by decide) (gX_count l G 2 (qp_g (qp_g I I1) I2) J2 e3 (Nat.le_refl 6))) rfl rfl rfl rfl (by decide) ?_
        refine lw_br_L qp_fx35 (e := ( .ifCond .ne 76, 0, 2325)) (f := ¬ v3 = 0) (ct := (2325, [none, some (.ref 0), none, some (.int a3), some (.int a4), none, none, none, none, none, some (.int a10), none, none, none, none, none, none, none, none, none, none, none, none, none, none, some (.ref 39), some (.ref 40), some (.int a27), some (.long v1), none, none, none], [], qp_mkE 41 3062 (qp_g (qp_g (qp_g I I1) I2) I3) J3)) (cf := (2252, [none, some (.ref 0), none, some (.int a3), some (.int a4), none, none, none, none, none, some (.int a10), none, none, none, none, none, none, none, none, none, none, none, none, none, none, some (.ref 39), some (.ref 40), some (.int a27), some (.long v1), none, none, none], [], qp_mkE 41 3062 (qp_g (qp_g (qp_g I I1) I2) I3) J3)) rfl (by with_unfolding_all rfl) (fun h3 => ?_) (fun h3 => ?_)
        · replace h := qp_ift h3 h
          exact absurd h (by simp)
        · replace h := qp_iff h3 h
          refine lw_run_L [(2252, .aload_n 1, 0, 0), (2253, .iload_n 3, 0, 0), (2254, .iconst 1, 1, 0), (2255, .isub, 0, 0)] (c' := (2256, [none, some (.ref 0), none, some (.int a3), some (.int a4), none, none, none, none, none, some (.int a10), none, none, none, none, none, none, none, none, none, none, none, none, none, none, some (.ref 39), some (.ref 40), some (.int a27), some (.long v1), none, none, none], [.int (a3 - 1), .ref 0], qp_mkE 41 3062 (qp_g (qp_g (qp_g I I1) I2) I3) J3)) (by decide +kernel) (by with_unfolding_all rfl) (by exact ⟨rfl, rfl, rfl, rfl, trivial⟩) trivial ?_
          obtain ⟨v4, I4, J4, e4, h⟩ := qp_bd_s h
          refine lw_cVF qp_fx35 (rest := []) (oj := 0) qp_f62 rfl rfl (qp_lift (by decide) (gX_who l G (a3 - 1) (qp_g (qp_g (qp_g I I1) I2) I3) J3 e4 (Nat.le_refl 2))) rfl rfl rfl rfl (by decide) ?_
          refine lw_run_L [(2259, .iload_n 3, 0, 0), (2260, .iconst 1, 1, 0), (2261, .isub, 0, 0)] (c' := (2262, [none, some (.ref 0), none, some (.int a3), some (.int a4), none, none, none, none, none, some (.int a10), none, none, none, none, none, none, none, none, none, none, none, none, none, none, some (.ref 39), some (.ref 40), some (.int a27), some (.long v1), none, none, none], [.int (a3 - 1), .int v4], qp_mkE 41 3062 (qp_g (qp_g (qp_g (qp_g I I1) I2) I3) I4) J4)) (by decide +kernel) (by with_unfolding_all rfl) (by exact ⟨rfl, rfl, rfl, trivial⟩) trivial ?_
          refine lw_br_L qp_fx35 (e := ( .if_icmp .ne 63, 0, 2325)) (f := ¬ v4 = (a3 - 1)) (ct := (2325, [none, some (.ref 0), none, some (.int a3), some (.int a4), none, none, none, none, none, some (.int a10), none, none, none, none, none, none, none, none, none, none, none, none, none, none, some (.ref 39), some (.ref 40), some (.int a27), some (.long v1), none, none, none], [], qp_mkE 41 3062 (qp_g (qp_g (qp_g (qp_g I I1) I2) I3) I4) J4)) (cf := (2265, [none, some (.ref 0), none, some (.int a3), some (.int a4), none, none, none, none, none, some (.int a10), none, none, none, none, none, none, none, none, none, none, none, none, none, none, some (.ref 39), some (.ref 40), some (.int a27), some (.long v1), none, none, none], [], qp_mkE 41 3062 (qp_g (qp_g (qp_g (qp_g I I1) I2) I3) I4) J4)) rfl (by with_unfolding_all rfl) (fun h4 => ?_) (fun h4 => ?_)
          · replace h := qp_ift h4 h
            exact absurd h (by simp)
          · replace h := qp_iff h4 h
            refine lw_run_L [(2265, .aload_n 1, 0, 0), (2266, .iconst 0, 0, 0)] (c' := (2267, [none, some (.ref 0), none, some (.int a3), some (.int a4), none, none, none, none, none, some (.int a10), none, none, none, none, none, none, none, none, none, none, none, none, none, none, some (.ref 39), some (.ref 40), some (.int a27), some (.long v1), none, none, none], [.int 0, .ref 0], qp_mkE 41 3062 (qp_g (qp_g (qp_g (qp_g I I1) I2) I3) I4) J4)) (by decide +kernel) (by with_unfolding_all rfl) (by exact ⟨rfl, rfl, trivial⟩) trivial ?_
            obtain ⟨v5, I5, J5, e5, h⟩ := qp_bd_s h
            refine lw_cVF qp_fx35 (rest := []) (oj := 0) qp_f61 rfl rfl (qp_lift (by decide) (gX_on l G 0 (qp_g (qp_g (qp_g (qp_g I I1) I2) I3) I4) J4 e5 (Nat.le_refl 6))) rfl rfl rfl rfl (by decide) ?_
            refine lw_run_L [(2270, .iload 4, 0, 0)] (c' := (2272, [none, some (.ref 0), none, some (.int a3), some (.int a4), none, none, none, none, none, some (.int a10), none, none, none, none, none, none, none, none, none, none, none, none, none, none, some (.ref 39), some (.ref 40), some (.int a27), some (.long v1), none, none, none], [.int a4, .int v5], qp_mkE 41 3062 (qp_g (qp_g (qp_g (qp_g (qp_g I I1) I2) I3) I4) I5) J5)) (by decide +kernel) (by with_unfolding_all rfl) (by exact ⟨rfl, trivial⟩) trivial ?_
            refine lw_br_L qp_fx35 (e := ( .if_icmp .ne 53, 0, 2325)) (f := ¬ v5 = a4) (ct := (2325, [none, some (.ref 0), none, some (.int a3), some (.int a4), none, none, none, none, none, some (.int a10), none, none, none, none, none, none, none, none, none, none, none, none, none, none, some (.ref 39), some (.ref 40), some (.int a27), some (.long v1), none, none, none], [], qp_mkE 41 3062 (qp_g (qp_g (qp_g (qp_g (qp_g I I1) I2) I3) I4) I5) J5)) (cf := (2275, [none, some (.ref 0), none, some (.int a3), some (.int a4), none, none, none, none, none, some (.int a10), none, none, none, none, none, none, none, none, none, none, none, none, none, none, some (.ref 39), some (.ref 40), some (.int a27), some (.long v1), none, none, none], [], qp_mkE 41 3062 (qp_g (qp_g (qp_g (qp_g (qp_g I I1) I2) I3) I4) I5) J5)) rfl (by with_unfolding_all rfl) (fun h5 => ?_) (fun h5 => ?_)
            · replace h := qp_ift h5 h
              exact absurd h (by simp)
            · replace h := qp_iff h5 h
              refine lw_run_L [(2275, .aload_n 1, 0, 0)] (c' := (2276, [none, some (.ref 0), none, some (.int a3), some (.int a4), none, none, none, none, none, some (.int a10), none, none, none, none, none, none, none, none, none, none, none, none, none, none, some (.ref 39), some (.ref 40), some (.int a27), some (.long v1), none, none, none], [.ref 0], qp_mkE 41 3062 (qp_g (qp_g (qp_g (qp_g (qp_g I I1) I2) I3) I4) I5) J5)) (by decide +kernel) (by with_unfolding_all rfl) (by exact ⟨rfl, trivial⟩) trivial ?_
              obtain ⟨v6, I6, J6, e6, h⟩ := qp_bd_s h
              refine lw_cVF qp_fx35 (rest := []) (oj := 0) qp_f125 rfl rfl (qp_lift (by decide) (gX_digest l G (qp_g (qp_g (qp_g (qp_g (qp_g I I1) I2) I3) I4) I5) J5 e6 (Nat.le_refl 6))) rfl rfl rfl rfl (by decide) ?_
              refine lw_run_L [(2279, .lload 28, 0, 0), (2281, .lcmp, 0, 0)] (c' := (2282, [none, some (.ref 0), none, some (.int a3), some (.int a4), none, none, none, none, none, some (.int a10), none, none, none, none, none, none, none, none, none, none, none, none, none, none, some (.ref 39), some (.ref 40), some (.int a27), some (.long v1), none, none, none], [.int (lg_cmp v6 v1)], qp_mkE 41 3062 (qp_g (qp_g (qp_g (qp_g (qp_g (qp_g I I1) I2) I3) I4) I5) I6) J6)) (by decide +kernel) (by with_unfolding_all rfl) (by exact ⟨rfl, rfl, trivial⟩) trivial ?_
              refine lw_br_L qp_fx35 (e := ( .ifCond .ne 43, 0, 2325)) (f := ¬ (lg_cmp v6 v1) = 0) (ct := (2325, [none, some (.ref 0), none, some (.int a3), some (.int a4), none, none, none, none, none, some (.int a10), none, none, none, none, none, none, none, none, none, none, none, none, none, none, some (.ref 39), some (.ref 40), some (.int a27), some (.long v1), none, none, none], [], qp_mkE 41 3062 (qp_g (qp_g (qp_g (qp_g (qp_g (qp_g I I1) I2) I3) I4) I5) I6) J6)) (cf := (2285, [none, some (.ref 0), none, some (.int a3), some (.int a4), none, none, none, none, none, some (.int a10), none, none, none, none, none, none, none, none, none, none, none, none, none, none, some (.ref 39), some (.ref 40), some (.int a27), some (.long v1), none, none, none], [], qp_mkE 41 3062 (qp_g (qp_g (qp_g (qp_g (qp_g (qp_g I I1) I2) I3) I4) I5) I6) J6)) rfl (by with_unfolding_all rfl) (fun h6 => ?_) (fun h6 => ?_)
              · replace h := qp_ift h6 h
                exact absurd h (by simp)
              · replace h := qp_iff h6 h
                refine lw_run_L [(2285, .aload_n 1, 0, 0), (2286, .iconst 0, 0, 0)] (c' := (2287, [none, some (.ref 0), none, some (.int a3), some (.int a4), none, none, none, none, none, some (.int a10), none, none, none, none, none, none, none, none, none, none, none, none, none, none, some (.ref 39), some (.ref 40), some (.int a27), some (.long v1), none, none, none], [.int 0, .ref 0], qp_mkE 41 3062 (qp_g (qp_g (qp_g (qp_g (qp_g (qp_g I I1) I2) I3) I4) I5) I6) J6)) (by decide +kernel) (by with_unfolding_all rfl) (by exact ⟨rfl, rfl, trivial⟩) trivial ?_
                obtain ⟨v7, I7, J7, e7, h⟩ := qp_bd_s h
                refine lw_cVF qp_fx35 (rest := []) (oj := 0) qp_f26 rfl rfl (qp_lift (by decide) (gX_line l G 0 (qp_g (qp_g (qp_g (qp_g (qp_g (qp_g I I1) I2) I3) I4) I5) I6) J6 e7 (Nat.le_refl 7))) rfl rfl rfl rfl (by decide) ?_
                refine lw_run_L [(2290, .iload_n 3, 0, 0)] (c' := (2291, [none, some (.ref 0), none, some (.int a3), some (.int a4), none, none, none, none, none, some (.int a10), none, none, none, none, none, none, none, none, none, none, none, none, none, none, some (.ref 39), some (.ref 40), some (.int a27), some (.long v1), none, none, none], [.int a3, .int v7], qp_mkE 41 3062 (qp_g (qp_g (qp_g (qp_g (qp_g (qp_g (qp_g I I1) I2) I3) I4) I5) I6) I7) J7)) (by decide +kernel) (by with_unfolding_all rfl) (by exact ⟨rfl, trivial⟩) trivial ?_
                refine lw_br_L qp_fx35 (e := ( .if_icmp .ne 34, 0, 2325)) (f := ¬ v7 = a3) (ct := (2325, [none, some (.ref 0), none, some (.int a3), some (.int a4), none, none, none, none, none, some (.int a10), none, none, none, none, none, none, none, none, none, none, none, none, none, none, some (.ref 39), some (.ref 40), some (.int a27), some (.long v1), none, none, none], [], qp_mkE 41 3062 (qp_g (qp_g (qp_g (qp_g (qp_g (qp_g (qp_g I I1) I2) I3) I4) I5) I6) I7) J7)) (cf := (2294, [none, some (.ref 0), none, some (.int a3), some (.int a4), none, none, none, none, none, some (.int a10), none, none, none, none, none, none, none, none, none, none, none, none, none, none, some (.ref 39), some (.ref 40), some (.int a27), some (.long v1), none, none, none], [], qp_mkE 41 3062 (qp_g (qp_g (qp_g (qp_g (qp_g (qp_g (qp_g I I1) I2) I3) I4) I5) I6) I7) J7)) rfl (by with_unfolding_all rfl) (fun h7 => ?_) (fun h7 => ?_)
                · replace h := qp_ift h7 h
                  exact absurd h (by simp)
                · replace h := qp_iff h7 h
                  refine lw_run_L [(2294, .aload_n 1, 0, 0), (2295, .iconst 0, 0, 0)] (c' := (2296, [none, some (.ref 0), none, some (.int a3), some (.int a4), none, none, none, none, none, some (.int a10), none, none, none, none, none, none, none, none, none, none, none, none, none, none, some (.ref 39), some (.ref 40), some (.int a27), some (.long v1), none, none, none], [.int 0, .ref 0], qp_mkE 41 3062 (qp_g (qp_g (qp_g (qp_g (qp_g (qp_g (qp_g I I1) I2) I3) I4) I5) I6) I7) J7)) (by decide +kernel) (by with_unfolding_all rfl) (by exact ⟨rfl, rfl, trivial⟩) trivial ?_
                  obtain ⟨v8, I8, J8, e8, h⟩ := qp_bd_s h
                  refine lw_cVF qp_fx35 (rest := []) (oj := 0) qp_f61 rfl rfl (qp_lift (by decide) (gX_on l G 0 (qp_g (qp_g (qp_g (qp_g (qp_g (qp_g (qp_g I I1) I2) I3) I4) I5) I6) I7) J7 e8 (Nat.le_refl 6))) rfl rfl rfl rfl (by decide) ?_
                  refine lw_run_L [(2299, .bipush (-3), (-3), 0)] (c' := (2301, [none, some (.ref 0), none, some (.int a3), some (.int a4), none, none, none, none, none, some (.int a10), none, none, none, none, none, none, none, none, none, none, none, none, none, none, some (.ref 39), some (.ref 40), some (.int a27), some (.long v1), none, none, none], [.int (-3), .int v8], qp_mkE 41 3062 (qp_g (qp_g (qp_g (qp_g (qp_g (qp_g (qp_g (qp_g I I1) I2) I3) I4) I5) I6) I7) I8) J8)) (by decide +kernel) (by with_unfolding_all rfl) (by exact ⟨rfl, trivial⟩) trivial ?_
                  refine lw_br_L qp_fx35 (e := ( .if_icmp .ne 24, 0, 2325)) (f := ¬ v8 = (-3)) (ct := (2325, [none, some (.ref 0), none, some (.int a3), some (.int a4), none, none, none, none, none, some (.int a10), none, none, none, none, none, none, none, none, none, none, none, none, none, none, some (.ref 39), some (.ref 40), some (.int a27), some (.long v1), none, none, none], [], qp_mkE 41 3062 (qp_g (qp_g (qp_g (qp_g (qp_g (qp_g (qp_g (qp_g I I1) I2) I3) I4) I5) I6) I7) I8) J8)) (cf := (2304, [none, some (.ref 0), none, some (.int a3), some (.int a4), none, none, none, none, none, some (.int a10), none, none, none, none, none, none, none, none, none, none, none, none, none, none, some (.ref 39), some (.ref 40), some (.int a27), some (.long v1), none, none, none], [], qp_mkE 41 3062 (qp_g (qp_g (qp_g (qp_g (qp_g (qp_g (qp_g (qp_g I I1) I2) I3) I4) I5) I6) I7) I8) J8)) rfl (by with_unfolding_all rfl) (fun h8 => ?_) (fun h8 => ?_)
                  · replace h := qp_ift h8 h
                    exact absurd h (by simp)
                  · replace h := qp_iff h8 h
                    refine lw_run_L [(2304, .aload_n 1, 0, 0), (2305, .iconst 3, 3, 0)] (c' := (2306, [none, some (.ref 0), none, some (.int a3), some (.int a4), none, none, none, none, none, some (.int a10), none, none, none, none, none, none, none, none, none, none, none, none, none, none, some (.ref 39), some (.ref 40), some (.int a27), some (.long v1), none, none, none], [.int 3, .ref 0], qp_mkE 41 3062 (qp_g (qp_g (qp_g (qp_g (qp_g (qp_g (qp_g (qp_g I I1) I2) I3) I4) I5) I6) I7) I8) J8)) (by decide +kernel) (by with_unfolding_all rfl) (by exact ⟨rfl, rfl, trivial⟩) trivial ?_
                    obtain ⟨v9, I9, J9, e9, h⟩ := qp_bd_s h
                    refine lw_cVF qp_fx36 (rest := []) (oj := 0) qp_f121 rfl rfl (qp_lift (by decide) (gX_count l G 3 (qp_g (qp_g (qp_g (qp_g (qp_g (qp_g (qp_g (qp_g I I1) I2) I3) I4) I5) I6) I7) I8) J8 e9 (Nat.le_refl 6))) rfl rfl rfl rfl (by decide) ?_
                    refine lw_br_L qp_fx36 (e := ( .ifCond .ne 16, 0, 2325)) (f := ¬ v9 = 0) (ct := (2325, [none, some (.ref 0), none, some (.int a3), some (.int a4), none, none, none, none, none, some (.int a10), none, none, none, none, none, none, none, none, none, none, none, none, none, none, some (.ref 39), some (.ref 40), some (.int a27), some (.long v1), none, none, none], [], qp_mkE 41 3062 (qp_g (qp_g (qp_g (qp_g (qp_g (qp_g (qp_g (qp_g (qp_g I I1) I2) I3) I4) I5) I6) I7) I8) I9) J9)) (cf := (2312, [none, some (.ref 0), none, some (.int a3), some (.int a4), none, none, none, none, none, some (.int a10), none, none, none, none, none, none, none, none, none, none, none, none, none, none, some (.ref 39), some (.ref 40), some (.int a27), some (.long v1), none, none, none], [], qp_mkE 41 3062 (qp_g (qp_g (qp_g (qp_g (qp_g (qp_g (qp_g (qp_g (qp_g I I1) I2) I3) I4) I5) I6) I7) I8) I9) J9)) rfl (by with_unfolding_all rfl) (fun h9 => ?_) (fun h9 => ?_)
                    · replace h := qp_ift h9 h
                      exact absurd h (by simp)
                    · replace h := qp_iff h9 h
                      refine lw_run_L [(2312, .iload 10, 0, 0)] (c' := (2314, [none, some (.ref 0), none, some (.int a3), some (.int a4), none, none, none, none, none, some (.int a10), none, none, none, none, none, none, none, none, none, none, none, none, none, none, some (.ref 39), some (.ref 40), some (.int a27), some (.long v1), none, none, none], [.int a10], qp_mkE 41 3062 (qp_g (qp_g (qp_g (qp_g (qp_g (qp_g (qp_g (qp_g (qp_g I I1) I2) I3) I4) I5) I6) I7) I8) I9) J9)) (by decide +kernel) (by with_unfolding_all rfl) (by exact ⟨rfl, trivial⟩) trivial ?_
                      obtain ⟨v10, I10, J10, e10, h⟩ := qp_bd_s h
                      refine lw_cSF qp_fx36 (rest := []) (oj := 13) qp_f138 rfl rfl (qp_lift (by decide) (gW_bits l G a10 (qp_g (qp_g (qp_g (qp_g (qp_g (qp_g (qp_g (qp_g (qp_g I I1) I2) I3) I4) I5) I6) I7) I8) I9) J9 e10 (Nat.le_refl 1))) rfl rfl rfl (by decide) ?_
                      refine lw_run_L [(2317, .iload_n 3, 0, 0)] (c' := (2318, [none, some (.ref 0), none, some (.int a3), some (.int a4), none, none, none, none, none, some (.int a10), none, none, none, none, none, none, none, none, none, none, none, none, none, none, some (.ref 39), some (.ref 40), some (.int a27), some (.long v1), none, none, none], [.int a3, .int v10], qp_mkE 41 3062 (qp_g (qp_g (qp_g (qp_g (qp_g (qp_g (qp_g (qp_g (qp_g (qp_g I I1) I2) I3) I4) I5) I6) I7) I8) I9) I10) J10)) (by decide +kernel) (by with_unfolding_all rfl) (by exact ⟨rfl, trivial⟩) trivial ?_
                      refine lw_br_L qp_fx36 (e := ( .if_icmp .ne 7, 0, 2325)) (f := ¬ v10 = a3) (ct := (2325, [none, some (.ref 0), none, some (.int a3), some (.int a4), none, none, none, none, none, some (.int a10), none, none, none, none, none, none, none, none, none, none, none, none, none, none, some (.ref 39), some (.ref 40), some (.int a27), some (.long v1), none, none, none], [], qp_mkE 41 3062 (qp_g (qp_g (qp_g (qp_g (qp_g (qp_g (qp_g (qp_g (qp_g (qp_g I I1) I2) I3) I4) I5) I6) I7) I8) I9) I10) J10)) (cf := (2321, [none, some (.ref 0), none, some (.int a3), some (.int a4), none, none, none, none, none, some (.int a10), none, none, none, none, none, none, none, none, none, none, none, none, none, none, some (.ref 39), some (.ref 40), some (.int a27), some (.long v1), none, none, none], [], qp_mkE 41 3062 (qp_g (qp_g (qp_g (qp_g (qp_g (qp_g (qp_g (qp_g (qp_g (qp_g I I1) I2) I3) I4) I5) I6) I7) I8) I9) I10) J10)) rfl (by with_unfolding_all rfl) (fun h10 => ?_) (fun h10 => ?_)
                      · replace h := qp_ift h10 h
                        exact absurd h (by simp)
                      · replace h := qp_iff h10 h
                        refine lw_run_L [(2321, .iconst 1, 1, 0), (2322, .goto 4, 0, 2326)] (c' := (2326, [none, some (.ref 0), none, some (.int a3), some (.int a4), none, none, none, none, none, some (.int a10), none, none, none, none, none, none, none, none, none, none, none, none, none, none, some (.ref 39), some (.ref 40), some (.int a27), some (.long v1), none, none, none], [.int 1], qp_mkE 41 3062 (qp_g (qp_g (qp_g (qp_g (qp_g (qp_g (qp_g (qp_g (qp_g (qp_g I I1) I2) I3) I4) I5) I6) I7) I8) I9) I10) J10)) (by decide +kernel) (by with_unfolding_all rfl) (by exact ⟨rfl, rfl, trivial⟩) trivial ?_
                        exact lw_end_F qp_fx36 rfl rfl rfl
    · replace h := qp_iff h1 h
      refine lw_run_L [(2170, .aload_n 1, 0, 0), (2171, .iload 4, 0, 0), (2173, .iload 28, 0, 0), (2175, .iadd, 0, 0)] (c' := (2176, [none, some (.ref 0), none, some (.int a3), some (.int a4), none, none, none, none, none, some (.int a10), none, none, none, none, none, none, none, none, none, none, none, none, none, none, some (.ref 39), some (.ref 40), some (.int a27), some (.int a28), none, none, none], [.int (a4 + a28), .ref 0], qp_mkE 41 3062 I J)) (by decide +kernel) (by with_unfolding_all rfl) (by exact ⟨rfl, rfl, rfl, rfl, trivial⟩) trivial ?_
      obtain ⟨v11, I11, J11, e11, h⟩ := qp_bd_s h
      refine lw_cVF qp_fx34 (rest := []) (oj := 0) qp_f57 rfl rfl (qp_lift (by decide) (gX_undo l G (a4 + a28) I J e11 (Nat.le_refl 7))) rfl rfl rfl rfl (by decide) ?_
      refine lw_run_L [(2179, .iload 28, 0, 0), (2181, .iload 27, 0, 0)] (c' := (2183, [none, some (.ref 0), none, some (.int a3), some (.int a4), none, none, none, none, none, some (.int a10), none, none, none, none, none, none, none, none, none, none, none, none, none, none, some (.ref 39), some (.ref 40), some (.int a27), some (.int a28), none, none, none], [.int a27, .int a28, .int v11], qp_mkE 41 3062 (qp_g I I11) J11)) (by decide +kernel) (by with_unfolding_all rfl) (by exact ⟨rfl, rfl, trivial⟩) trivial ?_
      refine lw_br_L qp_fx34 (e := ( .if_icmp .ne 7, 0, 2190)) (f := ¬ a28 = a27) (ct := (2190, [none, some (.ref 0), none, some (.int a3), some (.int a4), none, none, none, none, none, some (.int a10), none, none, none, none, none, none, none, none, none, none, none, none, none, none, some (.ref 39), some (.ref 40), some (.int a27), some (.int a28), none, none, none], [.int v11], qp_mkE 41 3062 (qp_g I I11) J11)) (cf := (2186, [none, some (.ref 0), none, some (.int a3), some (.int a4), none, none, none, none, none, some (.int a10), none, none, none, none, none, none, none, none, none, none, none, none, none, none, some (.ref 39), some (.ref 40), some (.int a27), some (.int a28), none, none, none], [.int v11], qp_mkE 41 3062 (qp_g I I11) J11)) rfl (by with_unfolding_all rfl) (fun h11 => ?_) (fun h11 => ?_)
      · replace h := qp_ift h11 h
        refine lw_run_L [(2190, .iconst 1, 1, 0)] (c' := (2191, [none, some (.ref 0), none, some (.int a3), some (.int a4), none, none, none, none, none, some (.int a10), none, none, none, none, none, none, none, none, none, none, none, none, none, none, some (.ref 39), some (.ref 40), some (.int a27), some (.int a28), none, none, none], [.int 1, .int v11], qp_mkE 41 3062 (qp_g I I11) J11)) (by decide +kernel) (by with_unfolding_all rfl) (by exact ⟨rfl, trivial⟩) trivial ?_
        exact gW_law_b2191 (fun a0 a1 a2 a3 a4 I J => fW_law_b2165 G n a0 a1 a2 a3 a4 I J) (fun a0 a1 a2 a3 a4 I J h => ih a0 a1 a2 a3 a4 I J h) a3 a4 a10 a27 a28 1 v11 (qp_g I I11) J11 h
      · replace h := qp_iff h11 h
        refine lw_run_L [(2186, .iconst 0, 0, 0), (2187, .goto 4, 0, 2191)] (c' := (2191, [none, some (.ref 0), none, some (.int a3), some (.int a4), none, none, none, none, none, some (.int a10), none, none, none, none, none, none, none, none, none, none, none, none, none, none, some (.ref 39), some (.ref 40), some (.int a27), some (.int a28), none, none, none], [.int 0, .int v11], qp_mkE 41 3062 (qp_g I I11) J11)) (by decide +kernel) (by with_unfolding_all rfl) (by exact ⟨rfl, rfl, trivial⟩) trivial ?_
        exact gW_law_b2191 (fun a0 a1 a2 a3 a4 I J => fW_law_b2165 G n a0 a1 a2 a3 a4 I J) (fun a0 a1 a2 a3 a4 I J h => ih a0 a1 a2 a3 a4 I J h) a3 a4 a10 a27 a28 0 v11 (qp_g I I11) J11 h
def fW_law_b2121 (G : qp_G)  (k1981 : Int32 → Int32 → Int32 → Int32 → Int32 → Int32 → (Nat → Nat → Int32) → (Nat → Nat → Int64) → Option Unit) (a3 : Int32) (a4 : Int32) (a10 : Int32) (a24 : Int32) (a27 : Int32) (a28 : Int32) (a31 : Int32) (I : Nat → Nat → Int32) (J : Nat → Nat → Int64) : Option Unit :=
  if a31 < (-4) then (
    none
  ) else (
    if a31 ≤ (-4) then (
      qp_bd (fX_count 3 I J) fun v1 I1 J1 =>
      if v1 = (a4 + a27) then (
        k1981 a3 a4 a10 a24 a27 (a28 + 1) (qp_g I I1) J1
      ) else (
        none
      )
    ) else (
      if a31 < 0 then (
        none
      ) else (
        qp_bd (fX_count 3 I J) fun v2 I2 J2 =>
        if v2 = (a4 + a27) then (
          k1981 a3 a4 a10 a24 a27 (a28 + 1) (qp_g I I2) J2
        ) else (
          none
        )
      )
    )
  )
set_option maxRecDepth 8000 in
theorem gW_law_b2121 {l : Launch} {G : qp_G}   (k1981 : Int32 → Int32 → Int32 → Int32 → Int32 → Int32 → (Nat → Nat → Int32) → (Nat → Nat → Int64) → Option Unit) (hk1981 : ∀ a3 a4 a10 a24 a27 a28 I J, k1981 a3 a4 a10 a24 a27 a28 I J = some () → lw_E l G (1981, [some (.ref 2000), some (.ref 0), none, some (.int a3), some (.int a4), none, none, none, none, none, some (.int a10), none, none, none, none, none, none, none, none, none, none, none, none, none, some (.int a24), some (.ref 39), some (.ref 40), some (.int a27), some (.int a28), none, none, none], [], qp_mkE 41 3062 I J)) : ∀ (a3 : Int32) (a4 : Int32) (a10 : Int32) (a24 : Int32) (a27 : Int32) (a28 : Int32) (a31 : Int32) (I : Nat → Nat → Int32) (J : Nat → Nat → Int64), fW_law_b2121 G k1981 a3 a4 a10 a24 a27 a28 a31 I J = some () → lw_E l G (2121, [some (.ref 2000), some (.ref 0), none, some (.int a3), some (.int a4), none, none, none, none, none, some (.int a10), none, none, none, none, none, none, none, none, none, none, none, none, none, some (.int a24), some (.ref 39), some (.ref 40), some (.int a27), some (.int a28), none, none, some (.int a31)], [], qp_mkE 41 3062 I J) := by
  have hd1 : True := trivial
  intro a3 a4 a10 a24 a27 a28 a31 I J h
  unfold fW_law_b2121 at h
  refine lw_run_L [(2121, .iload 31, 0, 0), (2123, .bipush (-4), (-4), 0)] (c' := (2125, [some (.ref 2000), some (.ref 0), none, some (.int a3), some (.int a4), none, none, none, none, none, some (.int a10), none, none, none, none, none, none, none, none, none, none, none, none, none, some (.int a24), some (.ref 39), some (.ref 40), some (.int a27), some (.int a28), none, none, some (.int a31)], [.int (-4), .int a31], qp_mkE 41 3062 I J)) (by decide +kernel) (by with_unfolding_all rfl) (by exact ⟨rfl, rfl, trivial⟩) trivial ?_
  refine lw_br_L qp_fx33 (e := ( .if_icmp .lt 28, 0, 2153)) (f := a31 < (-4)) (ct := (2153, [some (.ref 2000), some (.ref 0), none, some (.int a3), some (.int a4), none, none, none, none, none, some (.int a10), none, none, none, none, none, none, none, none, none, none, none, none, none, some (.int a24), some (.ref 39), some (.ref 40), some (.int a27), some (.int a28), none, none, some (.int a31)], [], qp_mkE 41 3062 I J)) (cf := (2128, [some (.ref 2000), some (.ref 0), none, some (.int a3), some (.int a4), none, none, none, none, none, some (.int a10), none, none, none, none, none, none, none, none, none, none, none, none, none, some (.int a24), some (.ref 39), some (.ref 40), some (.int a27), some (.int a28), none, none, some (.int a31)], [], qp_mkE 41 3062 I J)) rfl (by with_unfolding_all rfl) (fun h1 => ?_) (fun h1 => ?_)
  · replace h := qp_ift h1 h
    exact absurd h (by simp)
  · replace h := qp_iff h1 h
    refine lw_run_L [(2128, .iload 31, 0, 0), (2130, .bipush (-4), (-4), 0)] (c' := (2132, [some (.ref 2000), some (.ref 0), none, some (.int a3), some (.int a4), none, none, none, none, none, some (.int a10), none, none, none, none, none, none, none, none, none, none, none, none, none, some (.int a24), some (.ref 39), some (.ref 40), some (.int a27), some (.int a28), none, none, some (.int a31)], [.int (-4), .int a31], qp_mkE 41 3062 I J)) (by decide +kernel) (by with_unfolding_all rfl) (by exact ⟨rfl, rfl, trivial⟩) trivial ?_
    refine lw_br_L qp_fx33 (e := ( .if_icmp .le 8, 0, 2140)) (f := a31 ≤ (-4)) (ct := (2140, [some (.ref 2000), some (.ref 0), none, some (.int a3), some (.int a4), none, none, none, none, none, some (.int a10), none, none, none, none, none, none, none, none, none, none, none, none, none, some (.int a24), some (.ref 39), some (.ref 40), some (.int a27), some (.int a28), none, none, some (.int a31)], [], qp_mkE 41 3062 I J)) (cf := (2135, [some (.ref 2000), some (.ref 0), none, some (.int a3), some (.int a4), none, none, none, none, none, some (.int a10), none, none, none, none, none, none, none, none, none, none, none, none, none, some (.int a24), some (.ref 39), some (.ref 40), some (.int a27), some (.int a28), none, none, some (.int a31)], [], qp_mkE 41 3062 I J)) rfl (by with_unfolding_all rfl) (fun h2 => ?_) (fun h2 => ?_)
    · replace h := qp_ift h2 h
      refine lw_run_L [(2140, .aload_n 1, 0, 0), (2141, .iconst 3, 3, 0)] (c' := (2142, [some (.ref 2000), some (.ref 0), none, some (.int a3), some (.int a4), none, none, none, none, none, some (.int a10), none, none, none, none, none, none, none, none, none, none, none, none, none, some (.int a24), some (.ref 39), some (.ref 40), some (.int a27), some (.int a28), none, none, some (.int a31)], [.int 3, .ref 0], qp_mkE 41 3062 I J)) (by decide +kernel) (by with_unfolding_all rfl) (by exact ⟨rfl, rfl, trivial⟩) trivial ?_
      obtain ⟨v1, I1, J1, e1, h⟩ := qp_bd_s h
      refine lw_cVF qp_fx33 (rest := []) (oj := 0) qp_f121 rfl rfl (qp_lift (by decide) (gX_count l G 3 I J e1 (Nat.le_refl 6))) rfl rfl rfl rfl (by decide) ?_
      refine lw_run_L [(2145, .iload 4, 0, 0), (2147, .iload 27, 0, 0), (2149, .iadd, 0, 0)] (c' := (2150, [some (.ref 2000), some (.ref 0), none, some (.int a3), some (.int a4), none, none, none, none, none, some (.int a10), none, none, none, none, none, none, none, none, none, none, none, none, none, some (.int a24), some (.ref 39), some (.ref 40), some (.int a27), some (.int a28), none, none, some (.int a31)], [.int (a4 + a27), .int v1], qp_mkE 41 3062 (qp_g I I1) J1)) (by decide +kernel) (by with_unfolding_all rfl) (by exact ⟨rfl, rfl, rfl, trivial⟩) trivial ?_
      refine lw_br_L qp_fx33 (e := ( .if_icmp .eq 5, 0, 2155)) (f := v1 = (a4 + a27)) (ct := (2155, [some (.ref 2000), some (.ref 0), none, some (.int a3), some (.int a4), none, none, none, none, none, some (.int a10), none, none, none, none, none, none, none, none, none, none, none, none, none, some (.int a24), some (.ref 39), some (.ref 40), some (.int a27), some (.int a28), none, none, some (.int a31)], [], qp_mkE 41 3062 (qp_g I I1) J1)) (cf := (2153, [some (.ref 2000), some (.ref 0), none, some (.int a3), some (.int a4), none, none, none, none, none, some (.int a10), none, none, none, none, none, none, none, none, none, none, none, none, none, some (.int a24), some (.ref 39), some (.ref 40), some (.int a27), some (.int a28), none, none, some (.int a31)], [], qp_mkE 41 3062 (qp_g I I1) J1)) rfl (by with_unfolding_all rfl) (fun h3 => ?_) (fun h3 => ?_)
      · replace h := qp_ift h3 h
        refine lw_run_L [(2155, .iinc 28 1, 1, 0), (2158, .goto (-177), 0, 1981)] (c' := (1981, [some (.ref 2000), some (.ref 0), none, some (.int a3), some (.int a4), none, none, none, none, none, some (.int a10), none, none, none, none, none, none, none, none, none, none, none, none, none, some (.int a24), some (.ref 39), some (.ref 40), some (.int a27), some (.int (a28 + 1)), none, none, some (.int a31)], [], qp_mkE 41 3062 (qp_g I I1) J1)) (by decide +kernel) (by with_unfolding_all rfl) (by exact ⟨rfl, rfl, trivial⟩) trivial ?_
        exact lw_E_fg [true, true, false, true, true, false, false, false, false, false, true, false, false, false, false, false, false, false, false, false, false, false, false, false, true, true, true, true, true, false, false, false] (hk1981 a3 a4 a10 a24 a27 (a28 + 1) (qp_g I I1) J1 h)
      · replace h := qp_iff h3 h
        exact absurd h (by simp)
    · replace h := qp_iff h2 h
      refine lw_run_L [(2135, .iload 31, 0, 0)] (c' := (2137, [some (.ref 2000), some (.ref 0), none, some (.int a3), some (.int a4), none, none, none, none, none, some (.int a10), none, none, none, none, none, none, none, none, none, none, none, none, none, some (.int a24), some (.ref 39), some (.ref 40), some (.int a27), some (.int a28), none, none, some (.int a31)], [.int a31], qp_mkE 41 3062 I J)) (by decide +kernel) (by with_unfolding_all rfl) (by exact ⟨rfl, trivial⟩) trivial ?_
      refine lw_br_L qp_fx33 (e := ( .ifCond .lt 16, 0, 2153)) (f := a31 < 0) (ct := (2153, [some (.ref 2000), some (.ref 0), none, some (.int a3), some (.int a4), none, none, none, none, none, some (.int a10), none, none, none, none, none, none, none, none, none, none, none, none, none, some (.int a24), some (.ref 39), some (.ref 40), some (.int a27), some (.int a28), none, none, some (.int a31)], [], qp_mkE 41 3062 I J)) (cf := (2140, [some (.ref 2000), some (.ref 0), none, some (.int a3), some (.int a4), none, none, none, none, none, some (.int a10), none, none, none, none, none, none, none, none, none, none, none, none, none, some (.int a24), some (.ref 39), some (.ref 40), some (.int a27), some (.int a28), none, none, some (.int a31)], [], qp_mkE 41 3062 I J)) rfl (by with_unfolding_all rfl) (fun h4 => ?_) (fun h4 => ?_)
      · replace h := qp_ift h4 h
        exact absurd h (by simp)
      · replace h := qp_iff h4 h
        refine lw_run_L [(2140, .aload_n 1, 0, 0), (2141, .iconst 3, 3, 0)] (c' := (2142, [some (.ref 2000), some (.ref 0), none, some (.int a3), some (.int a4), none, none, none, none, none, some (.int a10), none, none, none, none, none, none, none, none, none, none, none, none, none, some (.int a24), some (.ref 39), some (.ref 40), some (.int a27), some (.int a28), none, none, some (.int a31)], [.int 3, .ref 0], qp_mkE 41 3062 I J)) (by decide +kernel) (by with_unfolding_all rfl) (by exact ⟨rfl, rfl, trivial⟩) trivial ?_
        obtain ⟨v2, I2, J2, e2, h⟩ := qp_bd_s h
        refine lw_cVF qp_fx33 (rest := []) (oj := 0) qp_f121 rfl rfl (qp_lift (by decide) (gX_count l G 3 I J e2 (Nat.le_refl 6))) rfl rfl rfl rfl (by decide) ?_
        refine lw_run_L [(2145, .iload 4, 0, 0), (2147, .iload 27, 0, 0), (2149, .iadd, 0, 0)] (c' := (2150, [some (.ref 2000), some (.ref 0), none, some (.int a3), some (.int a4), none, none, none, none, none, some (.int a10), none, none, none, none, none, none, none, none, none, none, none, none, none, some (.int a24), some (.ref 39), some (.ref 40), some (.int a27), some (.int a28), none, none, some (.int a31)], [.int (a4 + a27), .int v2], qp_mkE 41 3062 (qp_g I I2) J2)) (by decide +kernel) (by with_unfolding_all rfl) (by exact ⟨rfl, rfl, rfl, trivial⟩) trivial ?_
        refine lw_br_L qp_fx33 (e := ( .if_icmp .eq 5, 0, 2155)) (f := v2 = (a4 + a27)) (ct := (2155, [some (.ref 2000), some (.ref 0), none, some (.int a3), some (.int a4), none, none, none, none, none, some (.int a10), none, none, none, none, none, none, none, none, none, none, none, none, none, some (.int a24), some (.ref 39), some (.ref 40), some (.int a27), some (.int a28), none, none, some (.int a31)], [], qp_mkE 41 3062 (qp_g I I2) J2)) (cf := (2153, [some (.ref 2000), some (.ref 0), none, some (.int a3), some (.int a4), none, none, none, none, none, some (.int a10), none, none, none, none, none, none, none, none, none, none, none, none, none, some (.int a24), some (.ref 39), some (.ref 40), some (.int a27), some (.int a28), none, none, some (.int a31)], [], qp_mkE 41 3062 (qp_g I I2) J2)) rfl (by with_unfolding_all rfl) (fun h5 => ?_) (fun h5 => ?_)
        · replace h := qp_ift h5 h
          refine lw_run_L [(2155, .iinc 28 1, 1, 0), (2158, .goto (-177), 0, 1981)] (c' := (1981, [some (.ref 2000), some (.ref 0), none, some (.int a3), some (.int a4), none, none, none, none, none, some (.int a10), none, none, none, none, none, none, none, none, none, none, none, none, none, some (.int a24), some (.ref 39), some (.ref 40), some (.int a27), some (.int (a28 + 1)), none, none, some (.int a31)], [], qp_mkE 41 3062 (qp_g I I2) J2)) (by decide +kernel) (by with_unfolding_all rfl) (by exact ⟨rfl, rfl, trivial⟩) trivial ?_
          exact lw_E_fg [true, true, false, true, true, false, false, false, false, false, true, false, false, false, false, false, false, false, false, false, false, false, false, false, true, true, true, true, true, false, false, false] (hk1981 a3 a4 a10 a24 a27 (a28 + 1) (qp_g I I2) J2 h)
        · replace h := qp_iff h5 h
          exact absurd h (by simp)
def fW_law_b2089 (G : qp_G)  (k1981 : Int32 → Int32 → Int32 → Int32 → Int32 → Int32 → (Nat → Nat → Int32) → (Nat → Nat → Int64) → Option Unit) (a3 : Int32) (a4 : Int32) (a10 : Int32) (a24 : Int32) (a27 : Int32) (a28 : Int32) (s0 : Int32) (I : Nat → Nat → Int32) (J : Nat → Nat → Int64) : Option Unit :=
  if s0 = (-4) then (
    fW_law_b2121 G k1981 a3 a4 a10 a24 a27 a28 s0 I J
  ) else (
    qp_bd (fX_who 0 I J) fun v1 I1 J1 =>
    qp_gd ((0 ≤ (a27 + 1) ∧ (a27 + 1) < 16)) <|
    qp_bd (fX_count 5 (qp_up (qp_g I I1) 39 (Int32.toNatClampNeg (a27 + 1)) v1) J1) fun v2 I2 J2 =>
    qp_gd ((0 ≤ (a27 + 1) ∧ (a27 + 1) < 16)) <|
    fW_law_b2121 G k1981 a3 a4 a10 a24 (a27 + 1) a28 s0 (qp_up (qp_g (qp_up (qp_g I I1) 39 (Int32.toNatClampNeg (a27 + 1)) v1) I2) 40 (Int32.toNatClampNeg (a27 + 1)) v2) J2
  )
set_option maxRecDepth 8000 in
theorem gW_law_b2089 {l : Launch} {G : qp_G}   (k1981 : Int32 → Int32 → Int32 → Int32 → Int32 → Int32 → (Nat → Nat → Int32) → (Nat → Nat → Int64) → Option Unit) (hk1981 : ∀ a3 a4 a10 a24 a27 a28 I J, k1981 a3 a4 a10 a24 a27 a28 I J = some () → lw_E l G (1981, [some (.ref 2000), some (.ref 0), none, some (.int a3), some (.int a4), none, none, none, none, none, some (.int a10), none, none, none, none, none, none, none, none, none, none, none, none, none, some (.int a24), some (.ref 39), some (.ref 40), some (.int a27), some (.int a28), none, none, none], [], qp_mkE 41 3062 I J)) : ∀ (a3 : Int32) (a4 : Int32) (a10 : Int32) (a24 : Int32) (a27 : Int32) (a28 : Int32) (s0 : Int32) (I : Nat → Nat → Int32) (J : Nat → Nat → Int64), fW_law_b2089 G k1981 a3 a4 a10 a24 a27 a28 s0 I J = some () → lw_E l G (2089, [some (.ref 2000), some (.ref 0), none, some (.int a3), some (.int a4), none, none, none, none, none, some (.int a10), none, none, none, none, none, none, none, none, none, none, none, none, none, some (.int a24), some (.ref 39), some (.ref 40), some (.int a27), some (.int a28), none, none, none], [.int s0], qp_mkE 41 3062 I J) := by
  have hd1 : True := trivial
  intro a3 a4 a10 a24 a27 a28 s0 I J h
  unfold fW_law_b2089 at h
  refine lw_run_L [(2089, .istore 31, 0, 0), (2091, .iload 31, 0, 0), (2093, .bipush (-4), (-4), 0)] (c' := (2095, [some (.ref 2000), some (.ref 0), none, some (.int a3), some (.int a4), none, none, none, none, none, some (.int a10), none, none, none, none, none, none, none, none, none, none, none, none, none, some (.int a24), some (.ref 39), some (.ref 40), some (.int a27), some (.int a28), none, none, some (.int s0)], [.int (-4), .int s0], qp_mkE 41 3062 I J)) (by decide +kernel) (by with_unfolding_all rfl) (by exact ⟨rfl, rfl, rfl, trivial⟩) trivial ?_
  refine lw_br_L qp_fx32 (e := ( .if_icmp .eq 26, 0, 2121)) (f := s0 = (-4)) (ct := (2121, [some (.ref 2000), some (.ref 0), none, some (.int a3), some (.int a4), none, none, none, none, none, some (.int a10), none, none, none, none, none, none, none, none, none, none, none, none, none, some (.int a24), some (.ref 39), some (.ref 40), some (.int a27), some (.int a28), none, none, some (.int s0)], [], qp_mkE 41 3062 I J)) (cf := (2098, [some (.ref 2000), some (.ref 0), none, some (.int a3), some (.int a4), none, none, none, none, none, some (.int a10), none, none, none, none, none, none, none, none, none, none, none, none, none, some (.int a24), some (.ref 39), some (.ref 40), some (.int a27), some (.int a28), none, none, some (.int s0)], [], qp_mkE 41 3062 I J)) rfl (by with_unfolding_all rfl) (fun h1 => ?_) (fun h1 => ?_)
  · replace h := qp_ift h1 h
    exact gW_law_b2121 k1981 hk1981 a3 a4 a10 a24 a27 a28 s0 I J h
  · replace h := qp_iff h1 h
    refine lw_run_L [(2098, .iinc 27 1, 1, 0), (2101, .aload 25, 0, 0), (2103, .iload 27, 0, 0), (2105, .aload_n 1, 0, 0), (2106, .iconst 0, 0, 0)] (c' := (2107, [some (.ref 2000), some (.ref 0), none, some (.int a3), some (.int a4), none, none, none, none, none, some (.int a10), none, none, none, none, none, none, none, none, none, none, none, none, none, some (.int a24), some (.ref 39), some (.ref 40), some (.int (a27 + 1)), some (.int a28), none, none, some (.int s0)], [.int 0, .ref 0, .int (a27 + 1), .ref 39], qp_mkE 41 3062 I J)) (by decide +kernel) (by with_unfolding_all rfl) (by exact ⟨rfl, rfl, rfl, rfl, rfl, trivial⟩) trivial ?_
    obtain ⟨v1, I1, J1, e1, h⟩ := qp_bd_s h
    refine lw_cVF qp_fx32 (rest := [.int (a27 + 1), .ref 39]) (oj := 0) qp_f62 rfl rfl (qp_lift (by decide) (gX_who l G 0 I J e1 (Nat.le_refl 2))) rfl rfl rfl rfl (by decide) ?_
    obtain ⟨h2, h⟩ := qp_gd_s h
    refine lw_run_L [(2110, .iastore, 0, 0), (2111, .aload 26, 0, 0), (2113, .iload 27, 0, 0), (2115, .aload_n 1, 0, 0), (2116, .iconst 5, 5, 0)] (f := vp_in (a27 + 1) 16 ∧ True) (c' := (2117, [some (.ref 2000), some (.ref 0), none, some (.int a3), some (.int a4), none, none, none, none, none, some (.int a10), none, none, none, none, none, none, none, none, none, none, none, none, none, some (.int a24), some (.ref 39), some (.ref 40), some (.int (a27 + 1)), some (.int a28), none, none, some (.int s0)], [.int 5, .ref 0, .int (a27 + 1), .ref 40], qp_mkE 41 3062 (qp_up (qp_g I I1) 39 (Int32.toNatClampNeg (a27 + 1)) v1) J1)) (by decide +kernel) (by with_unfolding_all rfl) (by exact ⟨rfl, rfl, rfl, rfl, rfl, trivial⟩) ⟨(qp_vin (c := 16) (by decide) h2.1 h2.2), trivial⟩ ?_
    obtain ⟨v2, I2, J2, e2, h⟩ := qp_bd_s h
    refine lw_cVF qp_fx33 (rest := [.int (a27 + 1), .ref 40]) (oj := 0) qp_f121 rfl rfl (qp_lift (by decide) (gX_count l G 5 (qp_up (qp_g I I1) 39 (Int32.toNatClampNeg (a27 + 1)) v1) J1 e2 (Nat.le_refl 6))) rfl rfl rfl rfl (by decide) ?_
    obtain ⟨h3, h⟩ := qp_gd_s h
    refine lw_run_L [(2120, .iastore, 0, 0)] (f := vp_in (a27 + 1) 16 ∧ True) (c' := (2121, [some (.ref 2000), some (.ref 0), none, some (.int a3), some (.int a4), none, none, none, none, none, some (.int a10), none, none, none, none, none, none, none, none, none, none, none, none, none, some (.int a24), some (.ref 39), some (.ref 40), some (.int (a27 + 1)), some (.int a28), none, none, some (.int s0)], [], qp_mkE 41 3062 (qp_up (qp_g (qp_up (qp_g I I1) 39 (Int32.toNatClampNeg (a27 + 1)) v1) I2) 40 (Int32.toNatClampNeg (a27 + 1)) v2) J2)) (by decide +kernel) (by with_unfolding_all rfl) (by exact ⟨rfl, trivial⟩) ⟨(qp_vin (c := 16) (by decide) h3.1 h3.2), trivial⟩ ?_
    exact gW_law_b2121 k1981 hk1981 a3 a4 a10 a24 (a27 + 1) a28 s0 (qp_up (qp_g (qp_up (qp_g I I1) 39 (Int32.toNatClampNeg (a27 + 1)) v1) I2) 40 (Int32.toNatClampNeg (a27 + 1)) v2) J2 h
def fW_law_b1981 (G : qp_G)  : Nat → Int32 → Int32 → Int32 → Int32 → Int32 → Int32 → (Nat → Nat → Int32) → (Nat → Nat → Int64) → Option Unit
  | 0, _, _, _, _, _, _, _, _ => none
  | n + 1, a3, a4, a10, a24, a27, a28, I, J =>
    if a24 ≤ a28 then (
      fW_law_b2165 G 100000 a3 a4 a10 a27 a27 I J
    ) else (
      qp_bd (fW_cell G ((24 : Int32) + a28) I J) fun v1 I1 J1 =>
      qp_bd (fW_up v1 4 (qp_g I I1) J1) fun v2 I2 J2 =>
      if 2 ≤ v2 then (
        if ¬ v2 = 2 then (
          qp_bd (fW_up (v1 >>> ((8 : Int32) &&& 31)) 21 (qp_g (qp_g I I1) I2) J2) fun v3 I3 J3 =>
          qp_bd (fX_loaves v3 (qp_g (qp_g (qp_g I I1) I2) I3) J3) fun v4 I4 J4 =>
          fW_law_b2089 G (fun a0 a1 a2 a3 a4 a5 I J => fW_law_b1981 G n a0 a1 a2 a3 a4 a5 I J) a3 a4 a10 a24 a27 a28 v4 (qp_g (qp_g (qp_g (qp_g I I1) I2) I3) I4) J4
        ) else (
          qp_bd (fX_count 2 (qp_g (qp_g I I1) I2) J2) fun v5 I5 J5 =>
          if ¬ v5 = 0 then (
            qp_bd (fX_count 2 (qp_g (qp_g (qp_g I I1) I2) I5) J5) fun v6 I6 J6 =>
            qp_bd (fW_up (v1 >>> ((8 : Int32) &&& 31)) v6 (qp_g (qp_g (qp_g (qp_g I I1) I2) I5) I6) J6) fun v7 I7 J7 =>
            qp_bd (fX_back v7 (qp_g (qp_g (qp_g (qp_g (qp_g I I1) I2) I5) I6) I7) J7) fun v8 I8 J8 =>
            fW_law_b2089 G (fun a0 a1 a2 a3 a4 a5 I J => fW_law_b1981 G n a0 a1 a2 a3 a4 a5 I J) a3 a4 a10 a24 a27 a28 v8 (qp_g (qp_g (qp_g (qp_g (qp_g (qp_g I I1) I2) I5) I6) I7) I8) J8
          ) else (
            fW_law_b2089 G (fun a0 a1 a2 a3 a4 a5 I J => fW_law_b1981 G n a0 a1 a2 a3 a4 a5 I J) a3 a4 a10 a24 a27 a28 (-4) (qp_g (qp_g (qp_g I I1) I2) I5) J5
          )
        )
      ) else (
        qp_bd (fW_up (v1 >>> ((2 : Int32) &&& 31)) a3 (qp_g (qp_g I I1) I2) J2) fun v9 I9 J9 =>
        qp_bd (fW_up (v1 >>> ((5 : Int32) &&& 31)) a3 (qp_g (qp_g (qp_g I I1) I2) I9) J9) fun v10 I10 J10 =>
        qp_bd (fX_ticket v9 v10 (qp_g (qp_g (qp_g (qp_g I I1) I2) I9) I10) J10) fun v11 I11 J11 =>
        fW_law_b2089 G (fun a0 a1 a2 a3 a4 a5 I J => fW_law_b1981 G n a0 a1 a2 a3 a4 a5 I J) a3 a4 a10 a24 a27 a28 v11 (qp_g (qp_g (qp_g (qp_g (qp_g I I1) I2) I9) I10) I11) J11
      )
    )
set_option maxRecDepth 8000 in
theorem gW_law_b1981 {l : Launch} {G : qp_G}    : ∀ (n : Nat) (a3 : Int32) (a4 : Int32) (a10 : Int32) (a24 : Int32) (a27 : Int32) (a28 : Int32) (I : Nat → Nat → Int32) (J : Nat → Nat → Int64), fW_law_b1981 G  n a3 a4 a10 a24 a27 a28 I J = some () → lw_E l G (1981, [some (.ref 2000), some (.ref 0), none, some (.int a3), some (.int a4), none, none, none, none, none, some (.int a10), none, none, none, none, none, none, none, none, none, none, none, none, none, some (.int a24), some (.ref 39), some (.ref 40), some (.int a27), some (.int a28), none, none, none], [], qp_mkE 41 3062 I J) := by
  have hd1 : True := trivial
  intro n
  induction n with
  | zero => intro a3 a4 a10 a24 a27 a28 I J h; exact absurd h (by simp [fW_law_b1981])
  | succ n ih =>
    intro a3 a4 a10 a24 a27 a28 I J h
    rw [fW_law_b1981] at h
    refine lw_run_L [(1981, .iload 28, 0, 0), (1983, .iload 24, 0, 0)] (c' := (1985, [some (.ref 2000), some (.ref 0), none, some (.int a3), some (.int a4), none, none, none, none, none, some (.int a10), none, none, none, none, none, none, none, none, none, none, none, none, none, some (.int a24), some (.ref 39), some (.ref 40), some (.int a27), some (.int a28), none, none, none], [.int a24, .int a28], qp_mkE 41 3062 I J)) (by decide +kernel) (by with_unfolding_all rfl) (by exact ⟨rfl, rfl, trivial⟩) trivial ?_
    refine lw_br_L qp_fx31 (e := ( .if_icmp .ge 176, 0, 2161)) (f := a24 ≤ a28) (ct := (2161, [some (.ref 2000), some (.ref 0), none, some (.int a3), some (.int a4), none, none, none, none, none, some (.int a10), none, none, none, none, none, none, none, none, none, none, none, none, none, some (.int a24), some (.ref 39), some (.ref 40), some (.int a27), some (.int a28), none, none, none], [], qp_mkE 41 3062 I J)) (cf := (1988, [some (.ref 2000), some (.ref 0), none, some (.int a3), some (.int a4), none, none, none, none, none, some (.int a10), none, none, none, none, none, none, none, none, none, none, none, none, none, some (.int a24), some (.ref 39), some (.ref 40), some (.int a27), some (.int a28), none, none, none], [], qp_mkE 41 3062 I J)) rfl (by with_unfolding_all rfl) (fun h1 => ?_) (fun h1 => ?_)
    · replace h := qp_ift h1 h
      refine lw_run_L [(2161, .iload 27, 0, 0), (2163, .istore 28, 0, 0)] (c' := (2165, [some (.ref 2000), some (.ref 0), none, some (.int a3), some (.int a4), none, none, none, none, none, some (.int a10), none, none, none, none, none, none, none, none, none, none, none, none, none, some (.int a24), some (.ref 39), some (.ref 40), some (.int a27), some (.int a27), none, none, none], [], qp_mkE 41 3062 I J)) (by decide +kernel) (by with_unfolding_all rfl) (by exact ⟨rfl, rfl, trivial⟩) trivial ?_
      exact lw_E_fg [false, true, false, true, true, false, false, false, false, false, true, false, false, false, false, false, false, false, false, false, false, false, false, false, false, true, true, true, true, false, false, false] (gW_law_b2165 100000 a3 a4 a10 a27 a27 I J h)
    · replace h := qp_iff h1 h
      refine lw_run_L [(1988, .aload_n 0, 0, 0), (1989, .bipush 24, 24, 0), (1991, .iload 28, 0, 0), (1993, .iadd, 0, 0)] (c' := (1994, [some (.ref 2000), some (.ref 0), none, some (.int a3), some (.int a4), none, none, none, none, none, some (.int a10), none, none, none, none, none, none, none, none, none, none, none, none, none, some (.int a24), some (.ref 39), some (.ref 40), some (.int a27), some (.int a28), none, none, none], [.int ((24 : Int32) + a28), .ref 2000], qp_mkE 41 3062 I J)) (by decide +kernel) (by with_unfolding_all rfl) (by exact ⟨rfl, rfl, rfl, rfl, trivial⟩) trivial ?_
      obtain ⟨v1, I1, J1, e1, h⟩ := qp_bd_s h
      refine lw_cSF qp_fx31 (rest := []) (oj := 13) qp_f131 rfl rfl (qp_lift (by decide) (gW_cell l G ((24 : Int32) + a28) I J e1 (Nat.le_refl 1))) rfl rfl rfl (by decide) ?_
      refine lw_run_L [(1997, .istore 29, 0, 0), (1999, .iload 29, 0, 0), (2001, .iconst 4, 4, 0)] (c' := (2002, [some (.ref 2000), some (.ref 0), none, some (.int a3), some (.int a4), none, none, none, none, none, some (.int a10), none, none, none, none, none, none, none, none, none, none, none, none, none, some (.int a24), some (.ref 39), some (.ref 40), some (.int a27), some (.int a28), some (.int v1), none, none], [.int 4, .int v1], qp_mkE 41 3062 (qp_g I I1) J1)) (by decide +kernel) (by with_unfolding_all rfl) (by exact ⟨rfl, rfl, rfl, trivial⟩) trivial ?_
      obtain ⟨v2, I2, J2, e2, h⟩ := qp_bd_s h
      refine lw_cSF qp_fx31 (rest := []) (oj := 13) qp_f132 rfl rfl (qp_lift (by decide) (gW_up l G v1 4 (qp_g I I1) J1 e2 (Nat.le_refl 1))) rfl rfl rfl (by decide) ?_
      refine lw_run_L [(2005, .istore 30, 0, 0), (2007, .iload 30, 0, 0), (2009, .iconst 2, 2, 0)] (c' := (2010, [some (.ref 2000), some (.ref 0), none, some (.int a3), some (.int a4), none, none, none, none, none, some (.int a10), none, none, none, none, none, none, none, none, none, none, none, none, none, some (.int a24), some (.ref 39), some (.ref 40), some (.int a27), some (.int a28), some (.int v1), some (.int v2), none], [.int 2, .int v2], qp_mkE 41 3062 (qp_g (qp_g I I1) I2) J2)) (by decide +kernel) (by with_unfolding_all rfl) (by exact ⟨rfl, rfl, rfl, trivial⟩) trivial ?_
      refine lw_br_L qp_fx31 (e := ( .if_icmp .ge 26, 0, 2036)) (f := 2 ≤ v2) (ct := (2036, [some (.ref 2000), some (.ref 0), none, some (.int a3), some (.int a4), none, none, none, none, none, some (.int a10), none, none, none, none, none, none, none, none, none, none, none, none, none, some (.int a24), some (.ref 39), some (.ref 40), some (.int a27), some (.int a28), some (.int v1), some (.int v2), none], [], qp_mkE 41 3062 (qp_g (qp_g I I1) I2) J2)) (cf := (2013, [some (.ref 2000), some (.ref 0), none, some (.int a3), some (.int a4), none, none, none, none, none, some (.int a10), none, none, none, none, none, none, none, none, none, none, none, none, none, some (.int a24), some (.ref 39), some (.ref 40), some (.int a27), some (.int a28), some (.int v1), some (.int v2), none], [], qp_mkE 41 3062 (qp_g (qp_g I I1) I2) J2)) rfl (by with_unfolding_all rfl) (fun h2 => ?_) (fun h2 => ?_)
      · replace h := qp_ift h2 h
        refine lw_run_L [(2036, .iload 30, 0, 0), (2038, .iconst 2, 2, 0)] (c' := (2039, [some (.ref 2000), some (.ref 0), none, some (.int a3), some (.int a4), none, none, none, none, none, some (.int a10), none, none, none, none, none, none, none, none, none, none, none, none, none, some (.int a24), some (.ref 39), some (.ref 40), some (.int a27), some (.int a28), some (.int v1), some (.int v2), none], [.int 2, .int v2], qp_mkE 41 3062 (qp_g (qp_g I I1) I2) J2)) (by decide +kernel) (by with_unfolding_all rfl) (by exact ⟨rfl, rfl, trivial⟩) trivial ?_
        refine lw_br_L qp_fx31 (e := ( .if_icmp .ne 36, 0, 2075)) (f := ¬ v2 = 2) (ct := (2075, [some (.ref 2000), some (.ref 0), none, some (.int a3), some (.int a4), none, none, none, none, none, some (.int a10), none, none, none, none, none, none, none, none, none, none, none, none, none, some (.int a24), some (.ref 39), some (.ref 40), some (.int a27), some (.int a28), some (.int v1), some (.int v2), none], [], qp_mkE 41 3062 (qp_g (qp_g I I1) I2) J2)) (cf := (2042, [some (.ref 2000), some (.ref 0), none, some (.int a3), some (.int a4), none, none, none, none, none, some (.int a10), none, none, none, none, none, none, none, none, none, none, none, none, none, some (.int a24), some (.ref 39), some (.ref 40), some (.int a27), some (.int a28), some (.int v1), some (.int v2), none], [], qp_mkE 41 3062 (qp_g (qp_g I I1) I2) J2)) rfl (by with_unfolding_all rfl) (fun h3 => ?_) (fun h3 => ?_)
        · replace h := qp_ift h3 h
          refine lw_run_L [(2075, .aload_n 1, 0, 0), (2076, .iload 29, 0, 0), (2078, .bipush 8, 8, 0), (2080, .ishr, 0, 0), (2081, .bipush 21, 21, 0)] (c' := (2083, [some (.ref 2000), some (.ref 0), none, some (.int a3), some (.int a4), none, none, none, none, none, some (.int a10), none, none, none, none, none, none, none, none, none, none, none, none, none, some (.int a24), some (.ref 39), some (.ref 40), some (.int a27), some (.int a28), some (.int v1), some (.int v2), none], [.int 21, .int (v1 >>> ((8 : Int32) &&& 31)), .ref 0], qp_mkE 41 3062 (qp_g (qp_g I I1) I2) J2)) (by decide +kernel) (by with_unfolding_all rfl) (by exact ⟨rfl, rfl, rfl, rfl, rfl, trivial⟩) trivial ?_
          obtain ⟨v3, I3, J3, e3, h⟩ := qp_bd_s h
          refine lw_cSF qp_fx32 (rest := [.ref 0]) (oj := 13) qp_f132 rfl rfl (qp_lift (by decide) (gW_up l G (v1 >>> ((8 : Int32) &&& 31)) 21 (qp_g (qp_g I I1) I2) J2 e3 (Nat.le_refl 1))) rfl rfl rfl (by decide) ?_
          obtain ⟨v4, I4, J4, e4, h⟩ := qp_bd_s h
          refine lw_cVF qp_fx32 (rest := []) (oj := 0) qp_f56 rfl rfl (qp_lift (by decide) (gX_loaves l G v3 (qp_g (qp_g (qp_g I I1) I2) I3) J3 e4 (Nat.le_refl 6))) rfl rfl rfl rfl (by decide) ?_
          exact lw_E_fg [true, true, false, true, true, false, false, false, false, false, true, false, false, false, false, false, false, false, false, false, false, false, false, false, true, true, true, true, true, false, false, false] (gW_law_b2089 (fun a0 a1 a2 a3 a4 a5 I J => fW_law_b1981 G n a0 a1 a2 a3 a4 a5 I J) (fun a0 a1 a2 a3 a4 a5 I J h => ih a0 a1 a2 a3 a4 a5 I J h) a3 a4 a10 a24 a27 a28 v4 (qp_g (qp_g (qp_g (qp_g I I1) I2) I3) I4) J4 h)
        · replace h := qp_iff h3 h
          refine lw_run_L [(2042, .aload_n 1, 0, 0), (2043, .iconst 2, 2, 0)] (c' := (2044, [some (.ref 2000), some (.ref 0), none, some (.int a3), some (.int a4), none, none, none, none, none, some (.int a10), none, none, none, none, none, none, none, none, none, none, none, none, none, some (.int a24), some (.ref 39), some (.ref 40), some (.int a27), some (.int a28), some (.int v1), some (.int v2), none], [.int 2, .ref 0], qp_mkE 41 3062 (qp_g (qp_g I I1) I2) J2)) (by decide +kernel) (by with_unfolding_all rfl) (by exact ⟨rfl, rfl, trivial⟩) trivial ?_
          obtain ⟨v5, I5, J5, e5, h⟩ := qp_bd_s h
          refine lw_cVF qp_fx31 (rest := []) (oj := 0) qp_f121 rfl rfl (qp_lift (by decide) (gX_count l G 2 (qp_g (qp_g I I1) I2) J2 e5 (Nat.le_refl 6))) rfl rfl rfl rfl (by decide) ?_
          refine lw_br_L qp_fx31 (e := ( .ifCond .ne 8, 0, 2055)) (f := ¬ v5 = 0) (ct := (2055, [some (.ref 2000), some (.ref 0), none, some (.int a3), some (.int a4), none, none, none, none, none, some (.int a10), none, none, none, none, none, none, none, none, none, none, none, none, none, some (.int a24), some (.ref 39), some (.ref 40), some (.int a27), some (.int a28), some (.int v1), some (.int v2), none], [], qp_mkE 41 3062 (qp_g (qp_g (qp_g I I1) I2) I5) J5)) (cf := (2050, [some (.ref 2000), some (.ref 0), none, some (.int a3), some (.int a4), none, none, none, none, none, some (.int a10), none, none, none, none, none, none, none, none, none, none, none, none, none, some (.int a24), some (.ref 39), some (.ref 40), some (.int a27), some (.int a28), some (.int v1), some (.int v2), none], [], qp_mkE 41 3062 (qp_g (qp_g (qp_g I I1) I2) I5) J5)) rfl (by with_unfolding_all rfl) (fun h4 => ?_) (fun h4 => ?_)
          · replace h := qp_ift h4 h
            refine lw_run_L [(2055, .aload_n 1, 0, 0), (2056, .iload 29, 0, 0), (2058, .bipush 8, 8, 0), (2060, .ishr, 0, 0), (2061, .aload_n 1, 0, 0), (2062, .iconst 2, 2, 0)] (c' := (2063, [some (.ref 2000), some (.ref 0), none, some (.int a3), some (.int a4), none, none, none, none, none, some (.int a10), none, none, none, none, none, none, none, none, none, none, none, none, none, some (.int a24), some (.ref 39), some (.ref 40), some (.int a27), some (.int a28), some (.int v1), some (.int v2), none], [.int 2, .ref 0, .int (v1 >>> ((8 : Int32) &&& 31)), .ref 0], qp_mkE 41 3062 (qp_g (qp_g (qp_g I I1) I2) I5) J5)) (by decide +kernel) (by with_unfolding_all rfl) (by exact ⟨rfl, rfl, rfl, rfl, rfl, rfl, trivial⟩) trivial ?_
            obtain ⟨v6, I6, J6, e6, h⟩ := qp_bd_s h
            refine lw_cVF qp_fx32 (rest := [.int (v1 >>> ((8 : Int32) &&& 31)), .ref 0]) (oj := 0) qp_f121 rfl rfl (qp_lift (by decide) (gX_count l G 2 (qp_g (qp_g (qp_g I I1) I2) I5) J5 e6 (Nat.le_refl 6))) rfl rfl rfl rfl (by decide) ?_
            obtain ⟨v7, I7, J7, e7, h⟩ := qp_bd_s h
            refine lw_cSF qp_fx32 (rest := [.ref 0]) (oj := 13) qp_f132 rfl rfl (qp_lift (by decide) (gW_up l G (v1 >>> ((8 : Int32) &&& 31)) v6 (qp_g (qp_g (qp_g (qp_g I I1) I2) I5) I6) J6 e7 (Nat.le_refl 1))) rfl rfl rfl (by decide) ?_
            obtain ⟨v8, I8, J8, e8, h⟩ := qp_bd_s h
            refine lw_cVF qp_fx32 (rest := []) (oj := 0) qp_f54 rfl rfl (qp_lift (by decide) (gX_back l G v7 (qp_g (qp_g (qp_g (qp_g (qp_g I I1) I2) I5) I6) I7) J7 e8 (Nat.le_refl 6))) rfl rfl rfl rfl (by decide) ?_
            refine lw_run_L [(2072, .goto 17, 0, 2089)] (c' := (2089, [some (.ref 2000), some (.ref 0), none, some (.int a3), some (.int a4), none, none, none, none, none, some (.int a10), none, none, none, none, none, none, none, none, none, none, none, none, none, some (.int a24), some (.ref 39), some (.ref 40), some (.int a27), some (.int a28), some (.int v1), some (.int v2), none], [.int v8], qp_mkE 41 3062 (qp_g (qp_g (qp_g (qp_g (qp_g (qp_g I I1) I2) I5) I6) I7) I8) J8)) (by decide +kernel) (by with_unfolding_all rfl) (by exact ⟨rfl, trivial⟩) trivial ?_
            exact lw_E_fg [true, true, false, true, true, false, false, false, false, false, true, false, false, false, false, false, false, false, false, false, false, false, false, false, true, true, true, true, true, false, false, false] (gW_law_b2089 (fun a0 a1 a2 a3 a4 a5 I J => fW_law_b1981 G n a0 a1 a2 a3 a4 a5 I J) (fun a0 a1 a2 a3 a4 a5 I J h => ih a0 a1 a2 a3 a4 a5 I J h) a3 a4 a10 a24 a27 a28 v8 (qp_g (qp_g (qp_g (qp_g (qp_g (qp_g I I1) I2) I5) I6) I7) I8) J8 h)
          · replace h := qp_iff h4 h
            refine lw_run_L [(2050, .bipush (-4), (-4), 0), (2052, .goto 37, 0, 2089)] (c' := (2089, [some (.ref 2000), some (.ref 0), none, some (.int a3), some (.int a4), none, none, none, none, none, some (.int a10), none, none, none, none, none, none, none, none, none, none, none, none, none, some (.int a24), some (.ref 39), some (.ref 40), some (.int a27), some (.int a28), some (.int v1), some (.int v2), none], [.int (-4)], qp_mkE 41 3062 (qp_g (qp_g (qp_g I I1) I2) I5) J5)) (by decide +kernel) (by with_unfolding_all rfl) (by exact ⟨rfl, rfl, trivial⟩) trivial ?_
            exact lw_E_fg [true, true, false, true, true, false, false, false, false, false, true, false, false, false, false, false, false, false, false, false, false, false, false, false, true, true, true, true, true, false, false, false] (gW_law_b2089 (fun a0 a1 a2 a3 a4 a5 I J => fW_law_b1981 G n a0 a1 a2 a3 a4 a5 I J) (fun a0 a1 a2 a3 a4 a5 I J h => ih a0 a1 a2 a3 a4 a5 I J h) a3 a4 a10 a24 a27 a28 (-4) (qp_g (qp_g (qp_g I I1) I2) I5) J5 h)
      · replace h := qp_iff h2 h
        refine lw_run_L [(2013, .aload_n 1, 0, 0), (2014, .iload 29, 0, 0), (2016, .iconst 2, 2, 0), (2017, .ishr, 0, 0), (2018, .iload_n 3, 0, 0)] (c' := (2019, [some (.ref 2000), some (.ref 0), none, some (.int a3), some (.int a4), none, none, none, none, none, some (.int a10), none, none, none, none, none, none, none, none, none, none, none, none, none, some (.int a24), some (.ref 39), some (.ref 40), some (.int a27), some (.int a28), some (.int v1), some (.int v2), none], [.int a3, .int (v1 >>> ((2 : Int32) &&& 31)), .ref 0], qp_mkE 41 3062 (qp_g (qp_g I I1) I2) J2)) (by decide +kernel) (by with_unfolding_all rfl) (by exact ⟨rfl, rfl, rfl, rfl, rfl, trivial⟩) trivial ?_
        obtain ⟨v9, I9, J9, e9, h⟩ := qp_bd_s h
        refine lw_cSF qp_fx31 (rest := [.ref 0]) (oj := 13) qp_f132 rfl rfl (qp_lift (by decide) (gW_up l G (v1 >>> ((2 : Int32) &&& 31)) a3 (qp_g (qp_g I I1) I2) J2 e9 (Nat.le_refl 1))) rfl rfl rfl (by decide) ?_
        refine lw_run_L [(2022, .iload 29, 0, 0), (2024, .iconst 5, 5, 0), (2025, .ishr, 0, 0), (2026, .iload_n 3, 0, 0)] (c' := (2027, [some (.ref 2000), some (.ref 0), none, some (.int a3), some (.int a4), none, none, none, none, none, some (.int a10), none, none, none, none, none, none, none, none, none, none, none, none, none, some (.int a24), some (.ref 39), some (.ref 40), some (.int a27), some (.int a28), some (.int v1), some (.int v2), none], [.int a3, .int (v1 >>> ((5 : Int32) &&& 31)), .int v9, .ref 0], qp_mkE 41 3062 (qp_g (qp_g (qp_g I I1) I2) I9) J9)) (by decide +kernel) (by with_unfolding_all rfl) (by exact ⟨rfl, rfl, rfl, rfl, trivial⟩) trivial ?_
        obtain ⟨v10, I10, J10, e10, h⟩ := qp_bd_s h
        refine lw_cSF qp_fx31 (rest := [.int v9, .ref 0]) (oj := 13) qp_f132 rfl rfl (qp_lift (by decide) (gW_up l G (v1 >>> ((5 : Int32) &&& 31)) a3 (qp_g (qp_g (qp_g I I1) I2) I9) J9 e10 (Nat.le_refl 1))) rfl rfl rfl (by decide) ?_
        obtain ⟨v11, I11, J11, e11, h⟩ := qp_bd_s h
        refine lw_cVF qp_fx31 (rest := []) (oj := 0) qp_f42 rfl rfl (qp_lift (by decide) (gX_ticket l G v9 v10 (qp_g (qp_g (qp_g (qp_g I I1) I2) I9) I10) J10 e11 (Nat.le_refl 6))) rfl rfl rfl rfl (by decide) ?_
        refine lw_run_L [(2033, .goto 56, 0, 2089)] (c' := (2089, [some (.ref 2000), some (.ref 0), none, some (.int a3), some (.int a4), none, none, none, none, none, some (.int a10), none, none, none, none, none, none, none, none, none, none, none, none, none, some (.int a24), some (.ref 39), some (.ref 40), some (.int a27), some (.int a28), some (.int v1), some (.int v2), none], [.int v11], qp_mkE 41 3062 (qp_g (qp_g (qp_g (qp_g (qp_g I I1) I2) I9) I10) I11) J11)) (by decide +kernel) (by with_unfolding_all rfl) (by exact ⟨rfl, trivial⟩) trivial ?_
        exact lw_E_fg [true, true, false, true, true, false, false, false, false, false, true, false, false, false, false, false, false, false, false, false, false, false, false, false, true, true, true, true, true, false, false, false] (gW_law_b2089 (fun a0 a1 a2 a3 a4 a5 I J => fW_law_b1981 G n a0 a1 a2 a3 a4 a5 I J) (fun a0 a1 a2 a3 a4 a5 I J h => ih a0 a1 a2 a3 a4 a5 I J h) a3 a4 a10 a24 a27 a28 v11 (qp_g (qp_g (qp_g (qp_g (qp_g I I1) I2) I9) I10) I11) J11 h)
