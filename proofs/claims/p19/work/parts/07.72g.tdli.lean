
theorem td_li {D : DD} {cl pe ro gu li : Int32} {name first gain rough cu pa wh rp rc rh gc gh fr un : Nat → Int32} (h : TDc D cl pe ro gu li name first gain rough cu pa wh rp rc rh gc gh fr un) : 0 ≤ li.toInt := by
  have h0 := h.1
  have h1 := h.2.1.2.2.2.2
  unfold WD at h0
  omega
