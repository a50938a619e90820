/** Arithmetic instructions: every one of the 32768, against sums reckoned here bit by bit. */
final class ArithmeticTest {
    private static final int[] EDGES = {0, 1, 2, 255, 256, 0x7FFF, 0x8000, 0x8001, 0xFF00, 0xFFFE, 0xFFFF, 0x1234};

    public static void main(String[] args) {
        NovaDesk x = new NovaDesk();
        int draw = 0;
        for (int instruction = 32768; instruction < 65536; instruction++) {
            // An object is promised for 512 calls.
            if (instruction % 32 == 0) {
                x = new NovaDesk();
            }
            draw = draw * 1103515245 + 12345;
            one(x, instruction, draw >>> 8);
        }
        Check.finish();
    }

    private static void one(NovaDesk x, int instruction, int draw) {
        int sNumber = instruction >> 13 & 3;
        int aNumber = instruction >> 11 & 3;
        int s = EDGES[draw % EDGES.length];
        int a = sNumber == aNumber ? s : EDGES[draw / 16 % EDGES.length];
        int carry = draw / 256 & 1;
        x.set(sNumber, s);
        x.set(aNumber, a);
        x.set(4, carry);
        Desk.step(x, 500, instruction);
        int[] due = due(instruction, s, a, carry);
        String what = Integer.toOctalString(instruction) + " of " + s + ", " + a + ", " + carry;
        Check.same("word of " + what, x.register(aNumber), due[0]);
        Check.same("carry of " + what, x.register(4), due[1]);
        Check.same("pc of " + what, x.register(5), due[2]);
        if (sNumber != aNumber) {
            Check.same("source of " + what, x.register(sNumber), s);
        }
    }

    private static int[] due(int instruction, int s, int a, int carry) {
        int[] bases = {carry, 0, 1, carry == 0 ? 1 : 0};
        int c = bases[instruction >> 4 & 3];
        int notS = 65535 - s;
        int[] sums = {notS, notS + 1, s, s + 1, a + notS, a + notS + 1, a + s, a & s};
        int sum = sums[instruction >> 8 & 7];
        if (sum >= 65536) {
            c = 1 - c;
        }
        int word = sum % 65536;
        int out = c;
        switch (instruction >> 6 & 3) {
            case 1 -> {
                out = word / 32768;
                word = word * 2 % 65536 + c;
            }
            case 2 -> {
                out = word % 2;
                word = word / 2 + c * 32768;
            }
            case 3 -> word = word % 256 * 256 + word / 256;
            default -> { }
        }
        boolean[] skips = {false, true, out == 0, out == 1, word == 0, word != 0,
            out == 0 || word == 0, out == 1 && word != 0};
        int pc = skips[instruction & 7] ? 502 : 501;
        boolean loads = (instruction & 8) == 0;
        return new int[] {loads ? word : a, loads ? out : carry, pc};
    }
}
