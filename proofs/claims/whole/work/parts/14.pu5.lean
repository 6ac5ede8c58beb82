/-! pure part five: the abstract system. Its state: how many are opened, operations, closed, then by group and replica: up, view, log, executed; halted, known votes, known decisions, results. -/
abbrev ab_S : Type := Nat × (Nat → List pu_Op) × (Nat → Bool) × (Nat → Nat → Bool) × (Nat → Nat → Nat) × (Nat → Nat → List pu_En) × (Nat → Nat → Nat) × Bool × (Nat → Nat → Nat) × (Nat → Nat) × (Nat → Nat → Nat)
def ab_n (a : ab_S) : Nat := a.1
def ab_op (a : ab_S) : Nat → List pu_Op := a.2.1
def ab_cl (a : ab_S) : Nat → Bool := a.2.2.1
def ab_up (a : ab_S) : Nat → Nat → Bool := a.2.2.2.1
def ab_vi (a : ab_S) : Nat → Nat → Nat := a.2.2.2.2.1
def ab_lg (a : ab_S) : Nat → Nat → List pu_En := a.2.2.2.2.2.1
def ab_dn (a : ab_S) : Nat → Nat → Nat := a.2.2.2.2.2.2.1
def ab_ha (a : ab_S) : Bool := a.2.2.2.2.2.2.2.1
def ab_kv (a : ab_S) : Nat → Nat → Nat := a.2.2.2.2.2.2.2.2.1
def ab_kd (a : ab_S) : Nat → Nat := a.2.2.2.2.2.2.2.2.2.1
def ab_rs (a : ab_S) : Nat → Nat → Nat := a.2.2.2.2.2.2.2.2.2.2
def ab_new : ab_S := (0, fun _ => [], fun _ => false, fun _ _ => true, fun _ _ => 0, fun _ _ => [], fun _ _ => 0, false, fun _ _ => 0, fun _ => 0, fun _ _ => 0)
def ab_mk (n : Nat) (op : Nat → List pu_Op) (cl : Nat → Bool) (up : Nat → Nat → Bool) (vi : Nat → Nat → Nat) (lg : Nat → Nat → List pu_En) (dn : Nat → Nat → Nat) (ha : Bool) (kv : Nat → Nat → Nat) (kd : Nat → Nat) (rs : Nat → Nat → Nat) : ab_S := (n, op, cl, up, vi, lg, dn, ha, kv, kd, rs)
/-- the state of a shard's replica, the decisions of a keeper -/
noncomputable def ab_ex (a : ab_S) (s r : Nat) : pu_S := pu_ex (ab_op a) s ((ab_lg a s r).take (ab_dn a s r))
def ab_ds (a : ab_S) (r : Nat) : Nat → Nat := pu_ds ((ab_lg a 3 r).take (ab_dn a 3 r))
def ab_top (a : ab_S) (g : Nat) : Nat := pu_top (ab_up a g) (ab_vi a g)
/-- the leader, or 3 -/
def ab_ld (a : ab_S) (g : Nat) : Nat := if ab_up a g (ab_top a g % 3) = true then ab_top a g % 3 else 3
def ab_tc (a : ab_S) (t s : Nat) : Bool := (ab_op a t).any fun o => o.2.1 % 3 == s
/-- those of group g that are up take L and the view v, and execute it -/
def ab_spread (a : ab_S) (g : Nat) (L : List pu_En) (v : Nat) : ab_S :=
  ab_mk (ab_n a) (ab_op a) (ab_cl a) (ab_up a) (pu_up (ab_vi a) g (fun r => if ab_up a g r = true then v else ab_vi a g r)) (pu_up (ab_lg a) g (fun r => if ab_up a g r = true then L else ab_lg a g r)) (pu_up (ab_dn a) g (fun r => if ab_up a g r = true then L.length else ab_dn a g r)) (ab_ha a) (ab_kv a) (ab_kd a) (ab_rs a)
def ab_setlg (a : ab_S) (g f : Nat) (L : List pu_En) : ab_S :=
  ab_mk (ab_n a) (ab_op a) (ab_cl a) (ab_up a) (ab_vi a) (pu_up (ab_lg a) g (pu_up (ab_lg a g) f L)) (ab_dn a) (ab_ha a) (ab_kv a) (ab_kd a) (ab_rs a)
/-- to log: the code of the failure, or 0 -/
def ab_log (a : ab_S) (g : Nat) (e : pu_En) : Int × ab_S :=
  if ab_ld a g = 3 then (-3, a)
  else if 60 ≤ (ab_lg a g (ab_ld a g)).length then (-4, a)
  else if pu_cnt (ab_up a g) < 2 then (-5, ab_setlg a g (ab_ld a g) (ab_lg a g (ab_ld a g) ++ [e]))
  else (0, ab_spread a g (ab_lg a g (ab_ld a g) ++ [e]) (ab_vi a g (ab_ld a g)))
def ab_open (a : ab_S) : Int × ab_S := if 20 ≤ ab_n a then (-1, a) else ((ab_n a + 1 : Nat), ab_mk (ab_n a + 1) (ab_op a) (ab_cl a) (ab_up a) (ab_vi a) (ab_lg a) (ab_dn a) (ab_ha a) (ab_kv a) (ab_kd a) (ab_rs a))
def ab_is (a : ab_S) (t : Int) : Prop := 1 ≤ t ∧ t ≤ ab_n a
def ab_setop (a : ab_S) (t : Nat) (L : List pu_Op) : ab_S := ab_mk (ab_n a) (pu_up (ab_op a) t L) (ab_cl a) (ab_up a) (ab_vi a) (ab_lg a) (ab_dn a) (ab_ha a) (ab_kv a) (ab_kd a) (ab_rs a)
def ab_close (a : ab_S) (t : Nat) : ab_S := ab_mk (ab_n a) (ab_op a) (pu_up (ab_cl a) t true) (ab_up a) (ab_vi a) (ab_lg a) (ab_dn a) (ab_ha a) (ab_kv a) (ab_kd a) (ab_rs a)
def ab_setup (a : ab_S) (g r : Nat) (b : Bool) : ab_S := ab_mk (ab_n a) (ab_op a) (ab_cl a) (pu_up (ab_up a) g (pu_up (ab_up a g) r b)) (ab_vi a) (ab_lg a) (ab_dn a) (ab_ha a) (ab_kv a) (ab_kd a) (ab_rs a)
def ab_setha (a : ab_S) (b : Bool) : ab_S := ab_mk (ab_n a) (ab_op a) (ab_cl a) (ab_up a) (ab_vi a) (ab_lg a) (ab_dn a) b (ab_kv a) (ab_kd a) (ab_rs a)
def ab_forget (a : ab_S) : ab_S := ab_mk (ab_n a) (ab_op a) (ab_cl a) (ab_up a) (ab_vi a) (ab_lg a) (ab_dn a) true (fun _ _ => 0) (fun _ => 0) (ab_rs a)
def ab_setkd (a : ab_S) (t d : Nat) : ab_S := ab_mk (ab_n a) (ab_op a) (ab_cl a) (ab_up a) (ab_vi a) (ab_lg a) (ab_dn a) (ab_ha a) (ab_kv a) (pu_up (ab_kd a) t d) (ab_rs a)
/-- the coordinator learns the vote of t in shard s from replica r, and the results that it noted -/
noncomputable def ab_learn (a : ab_S) (t s r : Nat) : ab_S :=
  ab_mk (ab_n a) (ab_op a) (ab_cl a) (ab_up a) (ab_vi a) (ab_lg a) (ab_dn a) (ab_ha a) (pu_up (ab_kv a) t (pu_up (ab_kv a t) s ((ab_ex a s r).1 t))) (ab_kd a) (pu_up (ab_rs a) t (fun i => if pu_sh (ab_op a t) i = s then (ab_ex a s r).2.2.2 t i else ab_rs a t i))
noncomputable def ab_touch (a : ab_S) (t kind key : Int) (v : Nat) : Bool × ab_S := by
  classical exact
    if ab_is a t ∧ 0 ≤ kind ∧ kind ≤ 2 ∧ 0 ≤ key ∧ key ≤ 11 ∧ ab_cl a t.toNat = false ∧ (ab_op a t.toNat).length < 4 then (true, ab_setop a t.toNat (ab_op a t.toNat ++ [(kind.toNat, key.toNat, v)]))
    else (false, a)
noncomputable def ab_prepare (a : ab_S) (t s : Int) (back : Bool) : Int × ab_S := by
  classical exact
    if ¬ (ab_is a t ∧ 0 ≤ s ∧ s ≤ 2 ∧ ab_tc a t.toNat s.toNat = true) then (-1, a)
    else if ab_ha a = true then (-2, a)
    else if ab_ld a s.toNat = 3 then (-3, ab_close a t.toNat)
    else
      let b := ab_close a t.toNat
      let f := ab_ld a s.toNat
      let lr : Int × ab_S := if (ab_ex b s.toNat f).1 t.toNat = 0 then ab_log b s.toNat (0, t.toNat) else (0, b)
      if lr.1 ≠ 0 then lr
      else if back = false then (3, lr.2)
      else (((ab_ex lr.2 s.toNat f).1 t.toNat : Nat), ab_learn lr.2 t.toNat s.toNat f)
def ab_propose (a : ab_S) (k t : Nat) (back : Bool) : Int × ab_S :=
  if ab_ld a 3 = 3 then (-3, a)
  else
    let f := ab_ld a 3
    let lr : Int × ab_S := if ab_ds a f t = 0 then ab_log a 3 (k, t) else (0, a)
    if lr.1 ≠ 0 then lr
    else if back = false then (3, lr.2)
    else ((ab_ds lr.2 f t : Nat), ab_setkd lr.2 t (ab_ds lr.2 f t))
def ab_no (a : ab_S) (t : Nat) : Prop := ∃ s, s < 3 ∧ ab_kv a t s = 2
def ab_all (a : ab_S) (t : Nat) : Prop := ∀ s, s < 3 → ab_tc a t s = true → ab_kv a t s ≠ 0
noncomputable def ab_decide (a : ab_S) (t : Int) (back : Bool) : Int × ab_S := by
  classical exact
    if ¬ (ab_is a t ∧ (ab_op a t.toNat).length ≠ 0) then (-1, a)
    else if ab_ha a = true then (-2, a)
    else if ab_kd a t.toNat ≠ 0 then ((ab_kd a t.toNat : Nat), a)
    else if ab_no a t.toNat then ab_propose a 2 t.toNat back
    else if ab_all a t.toNat then ab_propose a 1 t.toNat back
    else (0, a)
noncomputable def ab_timeout (a : ab_S) (t : Int) (back : Bool) : Int × ab_S := by
  classical exact
    if ¬ (ab_is a t ∧ (ab_op a t.toNat).length ≠ 0) then (-1, a)
    else if ab_ha a = true then (-2, a)
    else if ab_kd a t.toNat ≠ 0 then ((ab_kd a t.toNat : Nat), ab_close a t.toNat)
    else ab_propose (ab_close a t.toNat) 2 t.toNat back
noncomputable def ab_finish (a : ab_S) (t s : Int) : Int × ab_S := by
  classical exact
    if ¬ (ab_is a t ∧ 0 ≤ s ∧ s ≤ 2 ∧ ab_tc a t.toNat s.toNat = true) then (-1, a)
    else if ab_ha a = true then (-2, a)
    else if ab_kd a t.toNat = 0 then (0, a)
    else if ab_ld a s.toNat = 3 then (-3, a)
    else if (ab_ex a s.toNat (ab_ld a s.toNat)).2.1 t.toNat = true then (1, a)
    else
      let lr := ab_log a s.toNat (ab_kd a t.toNat, t.toNat)
      if lr.1 ≠ 0 then lr else (1, lr.2)
/-- the next view of a group: the first behind the greatest whose replica is up -/
def ab_next (a : ab_S) (g : Nat) : Nat :=
  if ab_up a g ((ab_top a g + 1) % 3) = true then ab_top a g + 1 else if ab_up a g ((ab_top a g + 2) % 3) = true then ab_top a g + 2 else ab_top a g + 3
/-- the replica with the best log: the first of the longest of the greatest view -/
def ab_good (a : ab_S) (g r : Nat) : Bool := ab_up a g r && ab_vi a g r == ab_top a g
def ab_best (a : ab_S) (g : Nat) : Nat :=
  let b0 : Nat := 0
  let b1 : Nat := if ab_good a g 1 = true ∧ (ab_good a g 0 = false ∨ (ab_lg a g 0).length < (ab_lg a g 1).length) then 1 else b0
  if ab_good a g 2 = true ∧ ((ab_good a g 0 = false ∧ ab_good a g 1 = false) ∨ (ab_lg a g b1).length < (ab_lg a g 2).length) then 2 else b1
noncomputable def ab_elect (a : ab_S) (g : Int) : Int × ab_S := by
  classical exact
    if ¬ (0 ≤ g ∧ g ≤ 3 ∧ 2 ≤ pu_cnt (ab_up a g.toNat)) then (-1, a)
    else ((ab_next a g.toNat : Nat), ab_spread a g.toNat (ab_lg a g.toNat (ab_best a g.toNat)) (ab_next a g.toNat))
def ab_rep (g r : Int) : Prop := 0 ≤ g ∧ g ≤ 3 ∧ 0 ≤ r ∧ r ≤ 2
noncomputable def ab_crash (a : ab_S) (g r : Int) : Bool × ab_S := by
  classical exact
    if ab_rep g r ∧ ab_up a g.toNat r.toNat = true then (true, ab_setup a g.toNat r.toNat false) else (false, a)
noncomputable def ab_restart (a : ab_S) (g r : Int) : Bool × ab_S := by
  classical exact
    if ab_rep g r ∧ ab_up a g.toNat r.toNat = false then (true, ab_setup a g.toNat r.toNat true) else (false, a)
def ab_halt (a : ab_S) : Bool × ab_S := if ab_ha a = true then (false, a) else (true, ab_forget a)
def ab_resume (a : ab_S) : Bool × ab_S := if ab_ha a = true then (true, ab_setha a false) else (false, a)
/-- what holds of it -/
def ab_I (B : Nat) (a : ab_S) : Prop :=
  (∃ M C, pu_I (ab_n a) (ab_op a) (ab_cl a) (ab_vi a) (ab_lg a) (ab_dn a) (ab_kv a) (ab_kd a) (ab_rs a) M C) ∧
  ab_n a ≤ 20 ∧ (∀ t, (ab_op a t).length ≤ 4 ∧ ∀ o, o ∈ ab_op a t → o.1 < 3) ∧ (∀ g r, g < 4 → r < 3 → (ab_lg a g r).length ≤ 60) ∧ (∀ g r, g < 4 → r < 3 → ab_vi a g r ≤ B)
