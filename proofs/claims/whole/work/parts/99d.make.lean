/-! NEW OBJECTS: by the kernel -/
section URMK
variable {s : List (Nat ⊕ (Nat × Nat))} {R : Nat → Nat → Option Nat} {a L L' K K' : Nat}
def mk_dN : Decidable (oNight s R a) := by unfold oNight; repeat (refine @instDecidableAnd _ _ inferInstance ?_)
                                           exact inferInstance
def mk_dW : Decidable (oLaw s R a) := by unfold oLaw; exact inferInstance
def mk_dL : Decidable (oLand s R a) := by
  haveI h1 : ∀ a, Decidable (oLaw s R a) := fun a => mk_dW
  unfold oLand; repeat (refine @instDecidableAnd _ _ inferInstance ?_)
  exact inferInstance
def mk_dT : Decidable (oTape s R a) := by unfold oTape; exact inferInstance
def mk_dS : Decidable (oScript s R a) := by unfold oScript; repeat (refine @instDecidableAnd _ _ inferInstance ?_)
                                            exact inferInstance
def mk_dE : Decidable (oSeen s R a) := by unfold oSeen; exact inferInstance
def mk_dI : Decidable (oLine s R a) := by unfold oLine; repeat (refine @instDecidableAnd _ _ inferInstance ?_)
                                          exact inferInstance
def mk_dD : Decidable (oDraws s R a) := by unfold oDraws; exact inferInstance
def mk_dM : Decidable (oMark s R a) := by
  haveI h1 : ∀ a, Decidable (oNight s R a) := fun a => mk_dN
  haveI h2 : ∀ a, Decidable (oScript s R a) := fun a => mk_dS
  haveI h3 : ∀ a, Decidable (oSeen s R a) := fun a => mk_dE
  unfold oMark; repeat (refine @instDecidableAnd _ _ inferInstance ?_)
  exact inferInstance
def mk_dO : Decidable (oModel s R a) := by
  unfold oModel; repeat (refine @instDecidableAnd _ _ inferInstance ?_)
  exact inferInstance
def mk_dX : Decidable (oX s R L L' K K') := by
  haveI h1 : ∀ a, Decidable (oNight s R a) := fun a => mk_dN
  haveI h2 : ∀ a, Decidable (oScript s R a) := fun a => mk_dS
  haveI h3 : ∀ a, Decidable (oSeen s R a) := fun a => mk_dE
  haveI h4 : ∀ a, Decidable (oLand s R a) := fun a => mk_dL
  haveI h5 : ∀ a, Decidable (oTape s R a) := fun a => mk_dT
  haveI h6 : ∀ a, Decidable (oLine s R a) := fun a => mk_dI
  haveI h7 : ∀ a, Decidable (oDraws s R a) := fun a => mk_dD
  haveI h8 : ∀ a, Decidable (oMark s R a) := fun a => mk_dM
  haveI h9 : ∀ a, Decidable (oModel s R a) := fun a => mk_dO
  unfold oX
  refine @instDecidableAnd _ _ ?_ (@instDecidableAnd _ _ ?_ (@instDecidableAnd _ _ inferInstance (@instDecidableAnd _ _ inferInstance (@instDecidableAnd _ _ inferInstance inferInstance))))
  · repeat (refine @instDecidableAnd _ _ inferInstance ?_)
    exact inferInstance
  · repeat (refine @instDecidableAnd _ _ inferInstance ?_)
    exact inferInstance
end URMK
def mk_z : List (Nat × Nat) := [(3, 9), (3, 10), (3, 11), (3, 12), (11, 2), (210, 0), (210, 1), (210, 2), (218, 0), (219, 0), (33, 5), (33, 6), (33, 7), (33, 8), (241, 0), (241, 1), (241, 2), (241, 3), (241, 24), (241, 25), (241, 26), (241, 27), (241, 28), (1, 1), (208, 1), (25, 3), (233, 0), (45, 3), (237, 0), (0, 9), (0, 10), (208, 50), (152, 3), (166, 3), (180, 3), (194, 3), (246, 0), (246, 1), (246, 2), (246, 3)]
def mk_ck (m : ur_M) : Bool := @decide (oX m.1 m.2.2.2 3 14 25 29) mk_dX && (decide (m.1[251]? = some (.inr (1, 1))) && (decide (m.1.length = 252) && (decide (ur_sl m.1 ≤ 10000) && mk_z.all (fun q => decide (m.2.1 q.1 q.2 = 0)))))
def mk_0 : ur_M := ([], fun _ _ => 0, fun _ _ => 0, fun _ _ => none)
def mk_run : Option ur_M := (ur_nO mk_0 9).bind fun a => (ur_exc ur_G 5000 30 80 [.ref 0] a).bind fun b => bif Nat.beq b.2.1.length 208 then (ur_nO b.2 10).bind fun c => (ur_exc ur_G 5000 30 138 [.ref 208] c).bind fun d => bif Nat.beq d.2.1.length 251 then ur_nA d.2 1 1 else none else none
def mk_b : Bool := match mk_run with
  | some m => mk_ck m
  | none => false
set_option maxRecDepth 1000000 in
theorem mk_ok : mk_b = true := by decide +kernel
