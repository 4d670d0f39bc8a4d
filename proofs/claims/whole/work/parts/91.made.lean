/-! LAYER 3: what stands behind the two constructors (written by hand) -/
def am_hA : am_H := am_new am_h0 11 (am_nf 11)
def am_two : Option (am_H × am_H) := (am_run none 3000 40 mX11_init (0, am_L0 mX11_init [.ref 0], [], am_hA)).bind fun r => (am_run none 3000 40 mX12_init (0, am_L0 mX12_init [.ref 82], [], am_new r.2 12 (am_nf 12))).map fun q => (r.2, q.2)
def am_E (k j : Nat) : Int32 :=
  if k = 8 ∨ k = 24 then (if j = 1 then 12 else if j = 2 then 2 else if j = 4 then 1 else 0)
  else if k = 9 ∨ k = 25 then 1
  else if k = 72 ∨ k = 93 then -1
  else if k = 79 then 2
  else if k = 83 then (if j = 2 then 12 else if j = 5 then 2 else if j = 7 ∨ (8 ≤ j ∧ j < 24) then 1 else 0)
  else 0
def am_sz (k : Nat) : Nat := (am_SH.getD k (0, 0)).2
def am_check (h1 h2 : am_H) : Bool := h1.1.length == 82 && (h2.1 == am_SH) && am_RFL.all (fun z => h2.2.1 z.1 z.2.1 == some z.2.2) && (List.range 100).all (fun k => (List.range (am_sz k)).all fun j => h2.2.2.1 k j == am_E k j) && (List.range 4).all (fun q => (List.range 40).all fun j => h2.2.2.2 (75 + q) j == 0)
theorem am_two_ok : am_two.map (fun q => am_check q.1 q.2) = some true := by decide +kernel
