/** Nets and questions that several tests share. */
final class Nets {
    static final int NOT = 0, AND = 1, OR = 2, XOR = 3, NAND = 4, NOR = 5, MUX = 6, ZERO = 7, ONE = 8;

    private Nets() { }

    /** 2 inputs; OLD's output is AND of them (WIRE 2), WISH's is another KIND of them. */
    static GatePatch andTo(int kind) {
        GatePatch x = new GatePatch();
        x.begin(2, 0, 1);
        x.gate(0, AND, 0, 1, -1);
        x.gate(1, kind, 0, 1, -1);
        x.out(0, 0, 2);
        x.out(1, 0, 2);
        return x;
    }

    /** 3 inputs; OLD's output is ZERO (WIRE 3), WISH's is this function of the inputs. */
    static GatePatch zeroTo(int function) {
        GatePatch x = new GatePatch();
        x.gate(0, ZERO, -1, -1, -1);
        x.out(0, 0, 3);
        x.out(1, 0, table(x, function));
        return x;
    }

    /** 3 inputs; OLD's outputs are two ZEROS (WIRES 3 and 4), WISH's are these functions of the inputs. */
    static GatePatch zerosTo(int first, int second) {
        GatePatch x = new GatePatch();
        x.begin(3, 0, 2);
        for (int o = 0; o < 2; o++) {
            x.gate(0, ZERO, -1, -1, -1);
            x.out(0, o, 3 + o);
            x.out(1, o, table(x, o == 0 ? first : second));
        }
        return x;
    }

    /** WISH gets ZERO, ONE and MUXES that make this function of its first three inputs: the WIRE. */
    static int table(GatePatch x, int function) {
        int zero = x.gate(1, ZERO, -1, -1, -1);
        int one = x.gate(1, ONE, -1, -1, -1);
        return branch(x, function, 2, zero, one);
    }

    private static int branch(GatePatch x, int f, int input, int zero, int one) {
        if (input < 0) return (f & 1) == 1 ? one : zero;
        int half = 1 << input;
        int high = branch(x, f >> half, input - 1, zero, one);
        int low = branch(x, f & (1 << half) - 1, input - 1, zero, one);
        return x.gate(1, MUX, input, high, low);
    }

    /** 0: nothing is thrown; 1: IllegalArgumentException. */
    static int rowThrows(GatePatch x, int net, int wire, int part) {
        try {
            x.row(net, wire, part);
            return 0;
        } catch (IllegalArgumentException e) {
            return 1;
        }
    }

    /** 0: nothing is thrown; 1: IllegalArgumentException; 2: IllegalStateException. */
    static int atThrows(GatePatch x, int d, int i) {
        try {
            x.at(d, i);
            return 0;
        } catch (IllegalArgumentException e) {
            return 1;
        } catch (IllegalStateException e) {
            return 2;
        }
    }
}
