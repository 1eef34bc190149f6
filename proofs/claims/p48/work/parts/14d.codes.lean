section ZRD
def cd_seat (k : Nat) : Option Int32 := if k = 0 then some 1 else if k = 1 then some 2 else none
def cd_web (k : Nat) : Option Int32 := if k = 2 then some 1 else if k = 0 then some 2 else if k = 3 then some 3 else none
def cd_spring (k : Nat) : Option Int32 := if k = 2 then some 1 else if k = 0 then some 2 else if k = 3 then some 3 else none
def cd_change (k : Nat) : Option Int32 := if k = 2 then some 1 else if k = 0 then some 2 else if k = 3 then some 3 else none
def cd_tie (k : Nat) : Option Int32 := if k = 2 then some 1 else if k = 3 then some 2 else none
def cd_pull (k : Nat) : Option Int32 := if k = 2 then some 1 else if k = 0 then some 2 else if k = 3 then some 3 else none
def cd_layer (k : Nat) : Option Int32 := if k = 2 then some 1 else if k = 0 then some 2 else if k = 3 then some 3 else none
def cd_buttons (k : Nat) : Option Int32 := if k = 2 then some 1 else if k = 3 then some 2 else none
def cd_draw (k : Nat) : Option Int32 := if k = 2 then some 1 else if k = 0 then some 2 else if k = 3 then some 3 else if k = 1 then some 4 else none
def cd_cover (k : Nat) : Option Int32 := if k = 2 then some 1 else if k = 0 then some 2 else if k = 3 then some 3 else if k = 4 then some 4 else none
def cd_sign (k : Nat) : Option Int32 := if k = 2 then some 1 else if k = 3 then some 2 else none
def cd_open (k : Nat) : Option Int32 := if k = 2 then some 1 else if k = 0 then some 2 else none
def cd_steps (k : Nat) : Option Int32 := if k = 2 then some 1 else none
def cd_step (k : Nat) : Option Int32 := if k = 2 then some 1 else if k = 4 then some 2 else none
def cd_isSigned (k : Nat) : Option Int32 := if k = 2 then some 1 else if k = 4 then some 2 else none
def cd_isClosed (k : Nat) : Option Int32 := if k = 2 then some 1 else none
def cd_stands (k : Nat) : Option Int32 := if k = 2 then some 1 else none
def cd_thick (k : Nat) : Option Int32 := if k = 2 then some 1 else if k = 4 then some 2 else none
def cd_top (k : Nat) : Option Int32 := if k = 2 then some 1 else none
def cd_folds (k : Nat) : Option Int32 := if k = 2 then some 1 else none
def cd_buttonAt (k : Nat) : Option Int32 := if k = 2 then some 1 else if k = 4 then some 2 else none
def cd_body (k : Nat) : Option Int32 := if k = 1 then some 1 else none
def cd_mass (k : Nat) : Option Int32 := if k = 2 then some 1 else if k = 0 then some 2 else none
def cd_sinks (k : Nat) : Option Int32 := if k = 2 then some 1 else if k = 3 then some 2 else none
def cd_pressure (k : Nat) : Option Int32 := if k = 2 then some 1 else if k = 3 then some 2 else none
def cd_comfort (k : Nat) : Option Int32 := if k = 2 then some 1 else if k = 3 then some 2 else none
def cd_fit (k : Nat) : Option Int32 := if k = 2 then some 1 else if k = 3 then some 2 else none
def cd_cloth (k : Nat) : Option Int32 := if k = 0 then some 1 else if k = 1 then some 2 else none
def cd_flaw (k : Nat) : Option Int32 := if k = 2 then some 1 else if k = 3 then some 2 else if k = 1 then some 3 else none
def cd_left (k : Nat) : Option Int32 := if k = 2 then some 1 else none
def cd_panel (k : Nat) : Option Int32 := if k = 2 then some 1 else if k = 4 then some 2 else none
def cd_use (k : Nat) : Option Int32 := if k = 2 then some 1 else if k = 0 then some 2 else if k = 3 then some 3 else none
def cd_pound (k : Nat) : Option Int32 := if k = 2 then some 1 else if k = 0 then some 2 else if k = 3 then some 3 else none
def cd_hours (k : Nat) : Option Int32 := if k = 2 then some 1 else if k = 3 then some 2 else none
def cd_land (k : Nat) : Option Int32 := if k = 2 then some 1 else if k = 0 then some 2 else none
def cd_burns (k : Nat) : Option Int32 := if k = 2 then some 1 else none
def cd_tack (k : Nat) : Option Int32 := if k = 2 then some 1 else if k = 4 then some 2 else if k = 0 then some 3 else none
def cd_quarrels (k : Nat) : Option Int32 := if k = 2 then some 1 else none
def cd_promise (k : Nat) : Option Int32 := if k = 2 then some 1 else if k = 0 then some 2 else none
def cd_holds (k : Nat) : Option Int32 := if k = 2 then some 1 else if k = 3 then some 2 else none
def cd_quote (k : Nat) : Option Int32 := if k = 2 then some 1 else none
def cd_closedShare (k : Nat) : Option Int32 := if k = 4 then some 1 else none
def cd_meanTop (k : Nat) : Option Int32 := if k = 2 then some 1 else none
end ZRD
