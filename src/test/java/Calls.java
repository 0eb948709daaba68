final class Calls { Calls(Rows r) {} void all() {} }
