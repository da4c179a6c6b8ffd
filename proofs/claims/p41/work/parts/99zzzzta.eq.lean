section HP
variable {h : vH} {cs ds : List cC} {s t r q i v : Int} {j k : Nat} {c c2 : cC}
theorem hp_lt (hr : h 3 0 0 = r) (h0 : 0 < q) (h1 : q < r) : hp h cs s k q i = h k q i := by
  subst hr
  unfold hp
  rw [if_neg (by omega), if_neg (by omega)]
end HP
section HQ
variable {m : vM} {pc : Nat} {L S : List vv} {h : vH} {cs cs2 : List cC} {s s2 r q : Int}
end HQ

