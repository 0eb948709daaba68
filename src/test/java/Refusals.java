final class Refusals { Refusals(Rows r) {} void all() {} }
