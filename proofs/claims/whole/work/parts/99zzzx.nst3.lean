/-! shape, the only call without a value -/
section NS3
variable {h : vH} {p w l m n : Int}
theorem N_shape (j : JN n h) : stepNV n h e3 (fun a => tSp a p w l m) (fun _ => kSp p w l m) (vcl mX12_shape ((1, 3) :: [(0, p), (0, w), (0, l), (0, m)]) h) (fun a => vcl mX13_shape ((1, 282) :: [(0, p), (0, w), (0, l), (0, m)]) a) := J_loopNV j (fun a V => iV_shape V) (fun a V => iVs_shape V) (fun a c x => Cq_shape c) (fun a x => Mq_shape x.1) (fun a x => iA_of (iX_shape x.1 x.2.1) ⟨iM_shape x.2.2.1, iC_shape x.2.2.2⟩) (fun a => rZ_shape)
end NS3
