/** Promises 8 and 9: run and why; addresses, memory instructions, being lost, halting. */
final class RunTest {
    private static final int INDIRECT = 0x400;

    public static void main(String[] args) {
        counts();
        modes();
        memoryInstructions();
        countingAddresses();
        rows();
        lostInstructionChangesNothingElse();
        wrapsRound();
        halts();
        Check.finish();
    }

    private static void counts() {
        NovaDesk x = Desk.with("JMP 0");
        Check.same("why before any", x.why(), 0);
        Check.same("run(1)", x.run(1), 1);
        Check.same("run(5000)", x.run(5000), 5000);
        Check.same("why", x.why(), 0);
        Check.same("done in all", x.register(9), 5001);
        Check.refuses("run(0)", () -> x.run(0));
        Check.refuses("run(-1)", () -> x.run(-1));
        Check.refuses("run(5001)", () -> x.run(5001));
        Check.same("done in all stays", x.register(9), 5001);
    }

    private static void modes() {
        NovaDesk x = new NovaDesk();
        x.set(2, 1000);
        x.set(3, 2000);
        int[][] cases = {{0, 0x7F, 127}, {0, 0x80, 128}, {0, 0xFF, 255}, {1, 0x7F, 627}, {1, 0x80, 372},
            {2, 0x7F, 1127}, {2, 0xFF, 999}, {3, 0x80, 1872}, {3, 0, 2000}};
        for (int[] c : cases) {
            Desk.step(x, 500, c[0] << 8 | c[1]);
            Check.same("JMP mode " + c[0] + " D " + c[1], x.register(5), c[2]);
        }
        x.set(2, 65535);
        Desk.step(x, 500, 2 << 8 | 2);
        Check.same("addresses go modulo 32768", x.register(5), 1);
        x.set(3, 0);
        Desk.step(x, 500, 3 << 8 | 0xFF);
        Check.same("addresses go below 0", x.register(5), 32767);
        Desk.step(x, 5, 1 << 8 | 0x80);
        Check.same("the instruction's address goes below 0", x.register(5), 32768 + 5 - 128);
    }

    private static void memoryInstructions() {
        NovaDesk x = new NovaDesk();
        x.set(3, 700);
        Desk.step(x, 500, 1 << 11 | 3 << 8 | 5);
        Check.same("JSR finds E before", x.register(5), 705);
        Check.same("JSR's accumulator 3", x.register(3), 501);
        x.put(40, 65534);
        Desk.step(x, 500, 2 << 11 | 40);
        Check.same("ISZ does not skip", x.register(5), 501);
        Desk.step(x, 500, 2 << 11 | 40);
        Check.same("ISZ skips", x.register(5), 502);
        Check.same("ISZ goes round", x.word(40), 0);
        Desk.step(x, 500, 3 << 11 | 40);
        Check.same("DSZ goes round", x.word(40), 65535);
        Check.same("DSZ does not skip", x.register(5), 501);
        x.put(40, 1);
        Desk.step(x, 500, 3 << 11 | 40);
        Check.same("DSZ skips", x.register(5), 502);
        for (int a = 0; a < 4; a++) {
            x.put(60 + a, 40000 + a);
            Desk.step(x, 500, 1 << 13 | a << 11 | 60 + a);
            Check.same("LDA " + a, x.register(a), 40000 + a);
            Check.same("LDA goes on", x.register(5), 501);
            Desk.step(x, 500, 2 << 13 | a << 11 | 70 + a);
            Check.same("STA " + a, x.word(70 + a), 40000 + a);
            Check.same("STA goes on", x.register(5), 501);
        }
        x.put(0, 123);
        Desk.step(x, 500, 0x6000);
        Check.same("the least instruction of a device is no STA", x.word(0), 123);
        x.set(3, 800);
        x.put(799, 900);
        Desk.step(x, 500, 0x5FFF);
        Check.same("the highest STA", x.word(900), 800);
    }

    private static void countingAddresses() {
        for (int e = 15; e <= 32; e++) {
            NovaDesk x = new NovaDesk();
            x.put(e, 300);
            int due = 300 + (e >= 16 && e <= 23 ? 1 : e >= 24 && e <= 31 ? -1 : 0);
            Desk.step(x, 500, INDIRECT | e);
            Check.same("JMP @" + e, x.register(5), due);
            Check.same("word behind JMP @" + e, x.word(e), due);
            Desk.step(x, 500, 1 << 13 | e);
            Check.same("LDA " + e + " does not count", x.register(0), due);
        }
        NovaDesk x = new NovaDesk();
        x.put(16, 32767);
        x.put(24, 32768);
        x.put(0, 900);
        x.put(32767, 800);
        Desk.step(x, 500, INDIRECT | 16);
        Check.same("up to bit 15: goes on", x.register(5), 900);
        Desk.step(x, 500, INDIRECT | 24);
        Check.same("down from bit 15: ends", x.register(5), 32767);
        x.put(100, 32768 | 17);
        x.put(17, 32768 | 29);
        x.put(30, 61);
        Desk.step(x, 500, INDIRECT | 100);
        Check.same("counts further on in the row", x.register(5), 60);
        Check.same("counted up", x.word(17), 32768 | 30);
        Check.same("counted down", x.word(30), 60);
    }

    private static void rows() {
        NovaDesk x = new NovaDesk();
        for (int i = 0; i < 20; i++) {
            x.put(1000 + i, 32768 | 1001 + i);
        }
        x.set(2, 1000);
        x.put(1013, 77);
        Check.same("a row of 14", Desk.step(x, 500, INDIRECT | 2 << 8), 1);
        Check.same("its end", x.register(5), 77);
        x.put(1013, 32768 | 1014);
        x.put(1014, 77);
        Check.same("a row of 15", Desk.step(x, 500, INDIRECT | 2 << 8), 0);
        Check.same("lost", x.why(), 2);
        Check.same("the PC is at the instruction", x.register(5), 500);
        Check.same("a lost one is not counted", x.register(9), 1);
    }

    private static void lostInstructionChangesNothingElse() {
        NovaDesk x = new NovaDesk();
        x.put(20, 32768 | 899);
        x.put(900, 32768 | 900);
        x.set(3, 5);
        x.put(500, 0x6048);
        x.put(501, 1 << 11 | INDIRECT | 20);
        x.set(5, 500);
        Check.same("done before it is lost", x.run(10), 1);
        Check.same("why", x.why(), 2);
        Check.same("what was counted on the way stays", x.word(20), 32768 | 900);
        Check.same("JSR's accumulator stays", x.register(3), 5);
        x.put(20, 32768 | 899);
        Check.same("it stays lost", x.run(10), 0);
        x.put(20, 599);
        x.put(600, 0);
        Check.same("it goes on when mended", x.run(1), 1);
        Check.same("where it goes", x.register(5), 600);
        Check.same("why then", x.why(), 0);
        Check.same("no tick went by for lost ones", x.device(8, 1), 1);
    }

    private static void wrapsRound() {
        NovaDesk x = new NovaDesk();
        Desk.step(x, 32767, 0x8200);
        Check.same("behind the last word", x.register(5), 0);
        Desk.step(x, 32767, 0x8201);
        Check.same("skip behind the last word", x.register(5), 1);
        Desk.step(x, 32766, 0x8201);
        Check.same("skip of the last word", x.register(5), 0);
        Desk.step(x, 32767, 1 << 11 | 50);
        Check.same("JSR at the last word", x.register(3), 0);
    }

    private static void halts() {
        NovaDesk x = Desk.with("INC 0,0", "HALT", "INC 0,0", "INC 0,0", "HALT");
        Check.same("run to the first", x.run(100), 2);
        Check.same("why", x.why(), 1);
        Check.same("the PC is behind it", x.register(5), 2);
        Check.same("run to the second", x.run(3), 3);
        Check.same("why when it is the last one too", x.why(), 1);
        Check.refuses("run(0)", () -> x.run(0));
        Check.same("why stays", x.why(), 1);
        x.set(5, 0);
        x.run(1);
        Check.same("why of the latest", x.why(), 0);
        NovaDesk y = Desk.with("DOCS 3,CPU");
        Check.same("halts by any accumulator", y.run(2), 1);
        Check.same("why", y.why(), 1);
        Check.same("and control is done", y.register(7), 1);
    }
}
