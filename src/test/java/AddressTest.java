/** The document's terms of memory and of addresses: E by mode, rows of indirect words, what is done with E. */
final class AddressTest {
    private static final int INDIRECT = 0x400;
    private static final int JSR = 1 << 11;
    private static final int ISZ = 2 << 11;
    private static final int DSZ = 3 << 11;
    private static final int LDA = 1 << 13;
    private static final int STA = 2 << 13;

    public static void main(String[] args) {
        modes();
        moduloMemory();
        nextModuloMemory();
        countingWords();
        countingByEveryInstruction();
        lowestFifteenBits();
        rowsOfFourteen();
        lostInRow();
        fifteenthIsNotCounted();
        jumps();
        countsAndSkips();
        movesWords();
        firstAndLastOfEachKind();
        Check.finish();
    }

    private static void jumpGoes(String what, NovaDesk x, int address, int instruction, int due) {
        Desk.step(x, address, instruction);
        Check.same(what, x.register(5), due);
    }

    private static void modes() {
        Check.terms("E is, by mode: 0 D; 1 the instruction's address, 2 accumulator 2, 3 accumulator 3, each and D as a"
                + " number -128 .. 127.");
        NovaDesk x = new NovaDesk();
        x.set(2, 1000);
        x.set(3, 2000);
        int[] places = {0, 500, 1000, 2000};
        for (int mode = 0; mode <= 3; mode++) {
            for (int d : new int[] {0, 1, 0x7F, 0x80, 0x81, 0xFF}) {
                int due = mode == 0 ? d : places[mode] + (d < 128 ? d : d - 256);
                jumpGoes("JMP of mode " + mode + " and D " + d, x, 500, mode << 8 | d, due);
            }
        }
        Check.same("accumulator 2 stays", x.register(2), 1000);
        Check.same("accumulator 3 stays", x.register(3), 2000);
        Check.terms("FIELDS of addresses: bit 10 indirect, bits 9, 8 the MODE, bits 7 .. 0 D.");
        x.put(0x81, 1234);
        jumpGoes("bit 10 is 1", x, 500, INDIRECT | 0x81, 1234);
        jumpGoes("bit 10 is 0", x, 500, 0x81, 0x81);
        x.put(1005, 4321);
        jumpGoes("bit 10 with mode 2", x, 500, INDIRECT | 2 << 8 | 5, 4321);
    }

    private static void moduloMemory() {
        Check.terms("MEMORY has 32768 words (address 0 .. 32767; what is reckoned goes modulo that), all 0 at first.");
        NovaDesk x = new NovaDesk();
        int[][] cases = {{32767, 0, 32767}, {32767, 1, 0}, {32768, 0, 0}, {32768, 0xFF, 32767}, {65535, 0, 32767},
            {65535, 1, 0}, {65535, 0x7F, 126}, {0, 0xFF, 32767}, {0, 0x80, 32640}, {127, 0x80, 32767}, {128, 0x80, 0}};
        for (int[] c : cases) {
            x.set(2, c[0]);
            x.set(3, c[0]);
            jumpGoes("accumulator 2 of " + c[0] + " and D " + c[1], x, 500, 2 << 8 | c[1], c[2]);
            jumpGoes("accumulator 3 of " + c[0] + " and D " + c[1], x, 500, 3 << 8 | c[1], c[2]);
        }
        jumpGoes("the instruction's address goes below 0", x, 5, 1 << 8 | 0x80, 32645);
        jumpGoes("the instruction's address and D make just 0", x, 128, 1 << 8 | 0x80, 0);
        jumpGoes("the instruction's address goes behind the last", x, 32767, 1 << 8 | 1, 0);
        jumpGoes("the instruction's address goes far behind the last", x, 32767, 1 << 8 | 0x7F, 126);
        jumpGoes("the instruction's address and D make just the last", x, 32640, 1 << 8 | 0x7F, 32767);
        x.put(32767, 7);
        x.set(2, 65535);
        Desk.step(x, 500, LDA | 2 << 8);
        Check.same("LDA of the last word", x.register(0), 7);
        x.set(0, 9);
        Desk.step(x, 500, STA | 2 << 8 | 2);
        Check.same("STA to word 1", x.word(1), 9);
    }

    private static void nextModuloMemory() {
        Check.terms("MEMORY has 32768 words (address 0 .. 32767; what is reckoned goes modulo that), all 0 at first.");
        NovaDesk x = new NovaDesk();
        jumpGoes("behind arithmetic in the last word", x, 32767, 0x8200, 0);
        jumpGoes("skip behind the last word", x, 32767, 0x8201, 1);
        jumpGoes("skip of the last word", x, 32766, 0x8201, 0);
        jumpGoes("behind LDA in the last word", x, 32767, LDA | 5, 0);
        jumpGoes("behind STA in the last word", x, 32767, STA | 5, 0);
        jumpGoes("behind ISZ in the last word", x, 32767, ISZ | 5, 0);
        x.put(5, 65535);
        jumpGoes("ISZ skips word 0", x, 32767, ISZ | 5, 1);
        x.put(5, 1);
        jumpGoes("DSZ skips word 0", x, 32767, DSZ | 5, 1);
        jumpGoes("behind a device's instruction in the last word", x, 32767, 0x6008, 0);
        jumpGoes("a device's test skips word 0", x, 32767, 0x6748, 1);
        jumpGoes("HALT in the last word", x, 32767, 0x663F, 0);
        Check.terms("1 likewise, and accumulator 3 becomes the address behind this one (E is found before).");
        Desk.step(x, 32767, JSR | 50);
        Check.same("the address behind the last word", x.register(3), 0);
        Desk.step(x, 32766, JSR | 50);
        Check.same("the address behind the last but one", x.register(3), 32767);
        NovaDesk y = new NovaDesk();
        y.put(32767, 0x8300);
        y.set(5, 32767);
        y.put(0, 0xA300);
        Check.same("a run goes on from the last word to the first", y.run(2), 2);
        Check.same("at the second", y.register(5), 1);
    }

    private static void countingWords() {
        Check.terms("Indirect: the word at E is read; before, it goes up by 1 if E is 16 .. 23, down if E is 24 .. 31;");
        for (int e = 14; e <= 33; e++) {
            NovaDesk x = new NovaDesk();
            x.put(e, 300);
            int due = 300 + (e >= 16 && e <= 23 ? 1 : e >= 24 && e <= 31 ? -1 : 0);
            jumpGoes("JMP @" + e, x, 500, INDIRECT | e, due);
            Check.same("word behind JMP @" + e, x.word(e), due);
            Check.same("word behind that one", x.word(e + 1), 0);
            Desk.step(x, 500, LDA | e);
            Check.same("not indirect: LDA " + e + " does not count", x.register(0), due);
            Check.same("not indirect: the word stays", x.word(e), due);
        }
        NovaDesk x = new NovaDesk();
        x.put(23, 300);
        x.put(24, 300);
        x.set(3, 24);
        jumpGoes("E 23 by mode 3", x, 500, INDIRECT | 3 << 8 | 0xFF, 301);
        jumpGoes("E 24 by mode 3", x, 500, INDIRECT | 3 << 8, 299);
        x.set(2, 65535);
        x.put(16, 300);
        jumpGoes("E 16 modulo memory", x, 500, INDIRECT | 2 << 8 | 17, 301);
        x.put(16 + 256, 300);
        x.set(2, 256);
        jumpGoes("E 272 does not count", x, 500, INDIRECT | 2 << 8 | 16, 300);
    }

    private static void countingByEveryInstruction() {
        Check.terms("Indirect: the word at E is read; before, it goes up by 1 if E is 16 .. 23, down if E is 24 .. 31;");
        int[] instructions = {0, JSR, ISZ, DSZ, LDA, LDA | 3 << 11, STA, STA | 3 << 11};
        for (int instruction : instructions) {
            NovaDesk x = new NovaDesk();
            x.put(16, 299);
            x.put(31, 301);
            Desk.step(x, 500, instruction | INDIRECT | 16);
            Check.same("up by " + instruction, x.word(16), 300);
            Desk.step(x, 500, instruction | INDIRECT | 31);
            Check.same("down by " + instruction, x.word(31), 300);
        }
        NovaDesk x = new NovaDesk();
        x.put(17, 16);
        x.put(16, 50);
        Desk.step(x, 500, INDIRECT | LDA | 17);
        Check.same("counted once on the way, and not again as the word at E", x.register(0), 17);
        x.put(40, 16);
        Desk.step(x, 500, INDIRECT | LDA | 40);
        Check.same("E is 16, but the row has ended", x.register(0), 50);
        Check.same("and it stays", x.word(16), 50);
    }

    private static void lowestFifteenBits() {
        Check.terms("its lowest 15 bits are E then, and if its bit 15 is 1 it goes on so;");
        NovaDesk x = new NovaDesk();
        x.put(40, 32767);
        jumpGoes("15 bits", x, 500, INDIRECT | 40, 32767);
        x.put(32767, 77);
        x.put(40, 65535);
        jumpGoes("bit 15 and 15 bits", x, 500, INDIRECT | 40, 77);
        x.put(0, 900);
        x.put(40, 32768);
        jumpGoes("bit 15 alone goes on at 0", x, 500, INDIRECT | 40, 900);
        x.put(16, 32767);
        jumpGoes("counted up to bit 15: it goes on", x, 500, INDIRECT | 16, 900);
        Check.same("the word", x.word(16), 32768);
        x.put(16, 65535);
        jumpGoes("counted up to 0: it ends", x, 500, INDIRECT | 16, 0);
        Check.same("the word goes round", x.word(16), 0);
        x.put(24, 32768);
        jumpGoes("counted down from bit 15: it ends", x, 500, INDIRECT | 24, 32767);
        x.put(24, 0);
        jumpGoes("counted down to 65535: it goes on", x, 500, INDIRECT | 24, 77);
        Check.same("the word goes round, too", x.word(24), 65535);
        x.put(100, 32768 | 17);
        x.put(17, 32768 | 29);
        x.put(30, 61);
        jumpGoes("counts further on in the row", x, 500, INDIRECT | 100, 60);
        Check.same("counted up", x.word(17), 32768 | 30);
        Check.same("counted down", x.word(30), 60);
    }

    /** A row from 1000 on, its last word (so many words in all) with an end. */
    private static NovaDesk row(int words, int end) {
        NovaDesk x = new NovaDesk();
        for (int i = 0; i < words - 1; i++) {
            x.put(1000 + i, 32768 | 1001 + i);
        }
        x.put(1000 + words - 1, end);
        x.set(2, 1000);
        return x;
    }

    private static void rowsOfFourteen() {
        Check.terms("a fifteenth word of one such row is not read: the machine is LOST there.");
        for (int words = 1; words <= 16; words++) {
            NovaDesk x = row(words, 77);
            int done = words <= 14 ? 1 : 0;
            Check.same("JMP by a row of " + words, Desk.step(x, 500, INDIRECT | 2 << 8), done);
            Check.same("why", x.why(), done == 1 ? 0 : 2);
            Check.same("the PC", x.register(5), done == 1 ? 77 : 500);
            NovaDesk y = row(words, 77);
            y.put(77, 4567);
            Check.same("LDA by a row of " + words, Desk.step(y, 500, LDA | INDIRECT | 2 << 8), done);
            Check.same("the accumulator", y.register(0), done == 1 ? 4567 : 0);
        }
        NovaDesk x = new NovaDesk();
        x.put(16, 32768 | 15);
        for (int i = 17; i < 24; i++) {
            x.put(i, 32768 | i);
        }
        for (int i = 24; i < 28; i++) {
            x.put(i, 32768 | i + 2);
        }
        x.put(28, 901);
        Check.same("a row of 14 that counts", Desk.step(x, 500, INDIRECT | 16), 1);
        Check.same("its end", x.register(5), 900);
    }

    private static void lostInRow() {
        Check.terms("or is LOST (the PC at the instruction; what was counted on the way stays;");
        int[] instructions = {0, JSR, ISZ, DSZ, LDA | 3 << 11, STA | 3 << 11};
        for (int instruction : instructions) {
            NovaDesk x = new NovaDesk();
            x.put(20, 32768 | 899);
            x.put(900, 32768 | 900);
            x.set(3, 5);
            Check.same("done by " + instruction, Desk.step(x, 500, instruction | INDIRECT | 20), 0);
            Check.same("why", x.why(), 2);
            Check.same("the PC", x.register(5), 500);
            Check.same("what was counted on the way", x.word(20), 32768 | 900);
            Check.same("the last word that was read", x.word(900), 32768 | 900);
            Check.same("accumulator 3", x.register(3), 5);
            Check.same("no instruction was done", x.register(9), 0);
        }
    }

    private static void fifteenthIsNotCounted() {
        Check.terms("a fifteenth word of one such row is not read: the machine is LOST there.");
        NovaDesk x = row(13, 32768 | 16);
        x.put(16, 32768 | 16);
        x.put(17, 5);
        Check.same("done", Desk.step(x, 500, INDIRECT | 2 << 8), 0);
        Check.same("the fourteenth is counted", x.word(16), 32768 | 17);
        Check.same("the fifteenth is not", x.word(17), 5);
        Check.same("done again", x.run(1), 0);
        Check.same("the fourteenth is counted again", x.word(16), 32768 | 18);
        x.put(16, 899);
        Check.same("mended", x.run(1), 1);
        Check.same("its end", x.register(5), 900);
    }

    private static void jumps() {
        Check.terms("Bits 15 .. 11: 0 E is the PC.");
        NovaDesk x = new NovaDesk();
        x.set(3, 700);
        jumpGoes("JMP", x, 500, 0x0030, 48);
        Check.same("accumulator 3 stays", x.register(3), 700);
        Check.terms("1 likewise, and accumulator 3 becomes the address behind this one (E is found before).");
        jumpGoes("JSR finds E before", x, 500, JSR | 3 << 8 | 5, 705);
        Check.same("JSR's accumulator 3", x.register(3), 501);
        x.put(501, 3000);
        jumpGoes("JSR @0,3 finds E before, too", x, 600, JSR | INDIRECT | 3 << 8, 3000);
        Check.same("JSR's accumulator 3 then", x.register(3), 601);
    }

    private static void countsAndSkips() {
        Check.terms("2 the word at E goes up by 1, 3 down; the next instruction is skipped if it is 0 then.");
        int[][] cases = {{ISZ, 65534, 65535, 501}, {ISZ, 65535, 0, 502}, {ISZ, 0, 1, 501}, {ISZ, 32767, 32768, 501},
            {DSZ, 2, 1, 501}, {DSZ, 1, 0, 502}, {DSZ, 0, 65535, 501}, {DSZ, 32768, 32767, 501}};
        NovaDesk x = new NovaDesk();
        for (int[] c : cases) {
            x.put(40, c[1]);
            jumpGoes("the PC by " + c[0] + " of " + c[1], x, 500, c[0] | 40, c[3]);
            Check.same("the word by " + c[0] + " of " + c[1], x.word(40), c[2]);
        }
        x.put(20, 65535);
        jumpGoes("a counting word, not indirect, counts once", x, 500, ISZ | 20, 502);
        x.put(501, 65535);
        x.put(502, 0x6601);
        jumpGoes("the next instruction itself", x, 500, ISZ | 1 << 8 | 1, 502);
    }

    private static void movesWords() {
        Check.terms("Bits 15 .. 13: 1 the word at E comes to accumulator A (bits 12, 11), 2 A goes there.");
        NovaDesk x = new NovaDesk();
        for (int a = 0; a < 4; a++) {
            x.put(60 + a, 65535 - a);
            jumpGoes("the PC behind LDA " + a, x, 500, LDA | a << 11 | 60 + a, 501);
            Check.same("LDA " + a, x.register(a), 65535 - a);
            Check.same("the word stays", x.word(60 + a), 65535 - a);
            jumpGoes("the PC behind STA " + a, x, 500, STA | a << 11 | 70 + a, 501);
            Check.same("STA " + a, x.word(70 + a), 65535 - a);
        }
        for (int a = 0; a < 4; a++) {
            Check.same("each has its own: " + a, x.register(a), 65535 - a);
        }
        Check.same("CARRY stays", x.register(4), 0);
    }

    /** The numbers at which one kind of instruction ends and the next one begins. */
    private static void firstAndLastOfEachKind() {
        Check.terms("AN INSTRUCTION by its bits 15 .. 0.");
        NovaDesk x = new NovaDesk();
        x.set(3, 800);
        x.put(799, 900);
        jumpGoes("the highest JMP", x, 500, 0x07FF, 900);
        Check.same("it leaves accumulator 3", x.register(3), 800);
        jumpGoes("the highest JSR", x, 500, 0x0FFF, 900);
        Check.same("it changes accumulator 3", x.register(3), 501);
        x.set(3, 800);
        Desk.step(x, 500, 0x17FF);
        Check.same("the highest ISZ", x.word(900), 1);
        jumpGoes("the highest DSZ", x, 500, 0x1FFF, 502);
        Check.same("its word", x.word(900), 0);
        x.put(900, 65);
        x.put(0, 66);
        Desk.step(x, 500, 0x2000);
        Check.same("the least LDA", x.register(0), 66);
        x.set(3, 800);
        Desk.step(x, 500, 0x3FFF);
        Check.same("the highest LDA", x.register(3), 65);
        Desk.step(x, 500, 0x4000);
        Check.same("the least STA", x.word(0), 66);
        x.set(3, 800);
        Desk.step(x, 500, 0x5FFF);
        Check.same("the highest STA", x.word(900), 800);
        x.put(0, 123);
        Desk.step(x, 500, 0x6000);
        Check.same("the least instruction of a device is no STA", x.word(0), 123);
        jumpGoes("the highest instruction of a device: a test that always skips", x, 500, 0x7FFF, 502);
        Check.same("it is no arithmetic", x.register(3), 800);
        Desk.step(x, 500, 0x8000);
        Check.same("the least arithmetic", x.register(0), 65535 - 66);
        Check.same("HALT is none of them", Desk.step(x, 500, 0x663F), 1);
        Check.same("it halts", x.why(), 1);
    }
}
