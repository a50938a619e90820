/** The document's terms of arithmetic: edges by name, and every instruction against sums reckoned here. */
final class ArithmeticTest {
    private static final int[] EDGES = {0, 1, 2, 255, 256, 0x7FFF, 0x8000, 0x8001, 0xFF00, 0xFFFE, 0xFFFF, 0x1234};
    private static final int COM = 0;
    private static final int NEG = 1;
    private static final int MOV = 2;
    private static final int INC = 3;
    private static final int ADC = 4;
    private static final int SUB = 5;
    private static final int ADD = 6;
    private static final int AND = 7;

    public static void main(String[] args) {
        functions();
        sumsOfSixteenBits();
        bases();
        shifts();
        noLoad();
        skips();
        fields();
        sameAccumulator();
        everyInstruction();
        Check.finish();
    }

    /** S is accumulator 1 and A accumulator 2. */
    private static NovaDesk done(int low, int function, int s, int a, int carry) {
        NovaDesk x = new NovaDesk();
        x.set(1, s);
        x.set(2, a);
        x.set(4, carry);
        Desk.step(x, 500, 0x8000 | 1 << 13 | 2 << 11 | function << 8 | low);
        Check.same("S stays", x.register(1), s);
        return x;
    }

    private static void gives(int low, int function, int s, int a, int carry, int word, int c) {
        NovaDesk x = done(low, function, s, a, carry);
        String what = "function " + function + " with " + low + " of " + s + ", " + a + ", CARRY " + carry;
        Check.same("the word by " + what, x.register(2), word);
        Check.same("CARRY by " + what, x.register(4), c);
    }

    private static void functions() {
        Check.terms("By function, s and a being what S and A have: 0 s turned; 1 -s; 2 s; 3 s + 1; 4 a and s turned; 5 a - s; 6 a"
                + " + s; 7 a and s bit by bit.");
        int s = 0x1234;
        int a = 0x2345;
        int[] due = {0xEDCB, 0xEDCC, 0x1234, 0x1235, 0x1110, 0x1111, 0x3579, 0x0204};
        for (int function = 0; function <= 7; function++) {
            NovaDesk x = done(0, function, s, a, 0);
            Check.same("the word by function " + function, x.register(2), due[function]);
        }
    }

    private static void sumsOfSixteenBits() {
        Check.terms("c is turned if, all reckoned without signs as sums of 16 bits (1: s turned, and 1; 4: a, and s turned; 5:"
                + " that and 1), there is a bit 16.");
        for (int carry = 0; carry <= 1; carry++) {
            int turned = 1 - carry;
            gives(0, COM, 0, 5, carry, 65535, carry);
            gives(0, COM, 65535, 5, carry, 0, carry);
            gives(0, NEG, 0, 5, carry, 0, turned);
            gives(0, NEG, 1, 5, carry, 65535, carry);
            gives(0, NEG, 65535, 5, carry, 1, carry);
            gives(0, NEG, 32768, 5, carry, 32768, carry);
            gives(0, MOV, 65535, 5, carry, 65535, carry);
            gives(0, MOV, 0, 5, carry, 0, carry);
            gives(0, INC, 65535, 5, carry, 0, turned);
            gives(0, INC, 65534, 5, carry, 65535, carry);
            gives(0, INC, 32767, 5, carry, 32768, carry);
            gives(0, ADC, 5, 5, carry, 65535, carry);
            gives(0, ADC, 5, 6, carry, 0, turned);
            gives(0, ADC, 0, 65535, carry, 65534, turned);
            gives(0, ADC, 65535, 65535, carry, 65535, carry);
            gives(0, SUB, 5, 5, carry, 0, turned);
            gives(0, SUB, 6, 5, carry, 65535, carry);
            gives(0, SUB, 0, 0, carry, 0, turned);
            gives(0, SUB, 0, 65535, carry, 65535, turned);
            gives(0, SUB, 65535, 0, carry, 1, carry);
            gives(0, ADD, 1, 65535, carry, 0, turned);
            gives(0, ADD, 1, 65534, carry, 65535, carry);
            gives(0, ADD, 65535, 65535, carry, 65534, turned);
            gives(0, ADD, 32768, 32768, carry, 0, turned);
            gives(0, ADD, 32767, 32768, carry, 65535, carry);
            gives(0, AND, 65535, 65535, carry, 65535, carry);
            gives(0, AND, 0xFF0F, 0x0FFF, carry, 0x0F0F, carry);
        }
    }

    private static void bases() {
        Check.terms("The carry c is, by base: CARRY, 0, 1, CARRY turned.");
        for (int carry = 0; carry <= 1; carry++) {
            int[] due = {carry, 0, 1, 1 - carry};
            for (int base = 0; base <= 3; base++) {
                gives(base << 4, MOV, 7, 5, carry, 7, due[base]);
                gives(base << 4, INC, 65535, 5, carry, 0, 1 - due[base]);
            }
        }
    }

    private static void shifts() {
        Check.terms("By shift: 1 all bits go left: c to bit 0, bit 15 to c; 2 right: c to bit 15, bit 0 to c; 3 both bytes"
                + " change places.");
        int left = 1 << 6;
        int right = 2 << 6;
        int bytes = 3 << 6;
        gives(0, MOV, 0x8001, 0, 1, 0x8001, 1);
        gives(left, MOV, 0x8000, 0, 0, 0, 1);
        gives(left, MOV, 0x8000, 0, 1, 1, 1);
        gives(left, MOV, 0x7FFF, 0, 1, 0xFFFF, 0);
        gives(left, MOV, 0x4000, 0, 0, 0x8000, 0);
        gives(left, MOV, 0, 0, 1, 1, 0);
        gives(right, MOV, 1, 0, 0, 0, 1);
        gives(right, MOV, 1, 0, 1, 0x8000, 1);
        gives(right, MOV, 0xFFFE, 0, 0, 0x7FFF, 0);
        gives(right, MOV, 0x8000, 0, 0, 0x4000, 0);
        gives(right, MOV, 0, 0, 1, 0x8000, 0);
        gives(bytes, MOV, 0x12FE, 0, 0, 0xFE12, 0);
        gives(bytes, MOV, 0xFE12, 0, 1, 0x12FE, 1);
        gives(bytes, MOV, 0xFF, 0, 1, 0xFF00, 1);
        gives(left, INC, 65535, 0, 0, 1, 0);
        gives(right, INC, 65535, 0, 0, 0x8000, 0);
        gives(left | 2 << 4, MOV, 0, 0, 0, 1, 0);
        gives(right | 3 << 4, MOV, 0, 0, 0, 0x8000, 0);
    }

    private static void noLoad() {
        Check.terms("Unless NO LOAD: A and CARRY become that.");
        for (int shift = 0; shift <= 3; shift++) {
            gives(shift << 6 | 2 << 4 | 8, COM, 0x8001, 77, 0, 77, 0);
            gives(shift << 6 | 1 << 4 | 8, COM, 0x8001, 77, 1, 77, 1);
        }
        NovaDesk x = done(8 | 4, SUB, 9, 9, 0);
        Check.same("what is not loaded may skip", x.register(5), 502);
        NovaDesk y = done(8 | 3, INC, 65535, 9, 0);
        Check.same("its c may skip, too", y.register(5), 502);
    }

    private static void skips() {
        Check.terms("The next one is skipped, by skip: 0 not, 1 always, 2 if c is 0, 3 is 1, 4 if the word is 0, 5 is not 0, 6 if"
                + " c or the word is 0, 7 if both are not.");
        // Columns: c 0 and word 0, c 0 and word 1, c 1 and word 0, c 1 and word 1.
        int[][] due = {{0, 0, 0, 0}, {1, 1, 1, 1}, {1, 1, 0, 0}, {0, 0, 1, 1}, {1, 0, 1, 0}, {0, 1, 0, 1}, {1, 1, 1, 0},
            {0, 0, 0, 1}};
        for (int skip = 0; skip <= 7; skip++) {
            for (int column = 0; column < 4; column++) {
                for (int load = 0; load <= 8; load += 8) {
                    NovaDesk x = done(load | skip, MOV, column & 1, 5, column >> 1);
                    Check.same("skip " + skip + " of c " + (column >> 1) + " and word " + (column & 1), x.register(5) - 501,
                            due[skip][column]);
                }
            }
        }
        NovaDesk x = done(1 << 6 | 4, MOV, 0x8000, 5, 0);
        Check.same("the word behind the shift", x.register(5), 502);
        NovaDesk y = done(1 << 6 | 3, MOV, 0x8000, 5, 0);
        Check.same("c behind the shift", y.register(5), 502);
    }

    private static void fields() {
        Check.terms("Bit 15 is 1: arithmetic: S (bits 14, 13), A (12, 11), FUNCTION (10 .. 8), SHIFT (7, 6), BASE (5, 4), bit 3"
                + " NO LOAD, SKIP (2 .. 0).");
        for (int s = 0; s <= 3; s++) {
            for (int a = 0; a <= 3; a++) {
                NovaDesk x = new NovaDesk();
                for (int r = 0; r <= 3; r++) {
                    x.set(r, 100 << r);
                }
                Desk.step(x, 500, 0x8000 | s << 13 | a << 11 | ADD << 8);
                for (int r = 0; r <= 3; r++) {
                    int due = r == a ? (100 << s) + (100 << a) : 100 << r;
                    Check.same("accumulator " + r + " by S " + s + ", A " + a, x.register(r), due);
                }
            }
        }
    }

    private static void sameAccumulator() {
        Check.terms("By function, s and a being what S and A have");
        int[] due = {0xFEDC, 0xFEDD, 0x0123, 0x0124, 0xFFFF, 0, 0x0246, 0x0123};
        for (int function = 0; function <= 7; function++) {
            NovaDesk x = new NovaDesk();
            x.set(3, 0x0123);
            Desk.step(x, 500, 0x8000 | 3 << 13 | 3 << 11 | function << 8);
            Check.same("function " + function + " of one with itself", x.register(3), due[function]);
        }
    }

    private static void everyInstruction() {
        Check.terms("Bit 15 is 1: arithmetic");
        NovaDesk x = new NovaDesk();
        int draw = 0;
        for (int instruction = 32768; instruction < 65536; instruction++) {
            // An object is promised for 512 calls.
            if (instruction % 32 == 0) {
                x = new NovaDesk();
            }
            draw = draw * 1103515245 + 12345;
            one(x, instruction, draw >>> 8);
        }
    }

    private static void one(NovaDesk x, int instruction, int draw) {
        int sNumber = instruction >> 13 & 3;
        int aNumber = instruction >> 11 & 3;
        int s = EDGES[draw % EDGES.length];
        int a = sNumber == aNumber ? s : EDGES[draw / 16 % EDGES.length];
        int carry = draw / 256 & 1;
        x.set(sNumber, s);
        x.set(aNumber, a);
        x.set(4, carry);
        Desk.step(x, 500, instruction);
        int[] due = due(instruction, s, a, carry);
        String what = Integer.toOctalString(instruction) + " of " + s + ", " + a + ", " + carry;
        Check.same("word of " + what, x.register(aNumber), due[0]);
        Check.same("carry of " + what, x.register(4), due[1]);
        Check.same("pc of " + what, x.register(5), due[2]);
        if (sNumber != aNumber) {
            Check.same("source of " + what, x.register(sNumber), s);
        }
    }

    private static int[] due(int instruction, int s, int a, int carry) {
        int[] bases = {carry, 0, 1, carry == 0 ? 1 : 0};
        int c = bases[instruction >> 4 & 3];
        int notS = 65535 - s;
        int[] sums = {notS, notS + 1, s, s + 1, a + notS, a + notS + 1, a + s, a & s};
        int sum = sums[instruction >> 8 & 7];
        if (sum >= 65536) {
            c = 1 - c;
        }
        int word = sum % 65536;
        int out = c;
        switch (instruction >> 6 & 3) {
            case 1 -> {
                out = word / 32768;
                word = word * 2 % 65536 + c;
            }
            case 2 -> {
                out = word % 2;
                word = word / 2 + c * 32768;
            }
            case 3 -> word = word % 256 * 256 + word / 256;
            default -> { }
        }
        boolean[] skips = {false, true, out == 0, out == 1, word == 0, word != 0,
            out == 0 || word == 0, out == 1 && word != 0};
        int pc = skips[instruction & 7] ? 502 : 501;
        boolean loads = (instruction & 8) == 0;
        return new int[] {loads ? word : a, loads ? out : carry, pc};
    }
}
