/-! CODE of CheckWeigherLaw$Box: what is fixed of its methods, and their blocks, by program -/
