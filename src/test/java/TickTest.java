/** The document's terms of ticks, and promises 7, 10 and 11: tape, printed, tear. (A full tape: RefusalTest.) */
final class TickTest {
    private static final int START = 0x6040;
    private static final int CLEAR = 0x6080;
    private static final int READER = 8;
    private static final int PRINTER = 9;
    private static final int CLOCK = 10;
    private static final int IORST = 0x653F;

    public static void main(String[] args) {
        ticksNeeded();
        everyInstructionIsATick();
        lostOnesAreNone();
        startCountsAnew();
        startWhenDone();
        stoppedAtTheLast();
        readerWaitsForTape();
        readerTakesInOrder();
        printerPrintsItsWord();
        onceOnly();
        allAtOnce();
        tapeCounts();
        printedFirstThousand();
        tearCountsAnew();
        Check.finish();
    }

    /** An object that has a character on its tape and has done the START of a device. */
    private static NovaDesk started(int device) {
        NovaDesk x = new NovaDesk();
        x.tape(200);
        Desk.step(x, 100, START | device);
        return x;
    }

    private static void ticksNeeded() {
        int[] needed = {4, 4, 20};
        for (int d = READER; d <= CLOCK; d++) {
            Check.terms("of each device that is BUSY a tick goes by (of one that the instruction STARTs, too: its first;");
            NovaDesk x = started(d);
            Desk.deviceIs(x, "the first tick", d, 1, 0);
            Check.terms(d == READER ? "the reader's fourth one since START" : "the printer's fourth one prints its word, the"
                    + " clock's twentieth: likewise.");
            int last = needed[d - READER];
            for (int tick = 2; tick <= last; tick++) {
                Desk.idle(x, 1);
                Desk.deviceIs(x, "tick " + tick, d, tick == last ? 0 : 1, tick == last ? 1 : 0);
            }
            Check.same("printed", x.tear(), d == PRINTER ? 1 : 0);
            Check.same("left on the tape, with one more", x.tape(1), d == READER ? 1 : 2);
        }
    }

    private static void everyInstructionIsATick() {
        Check.terms("Behind each instruction: of each device that is BUSY a tick goes by");
        int[] instructions = {0x0100, 0x0905, 0x1005, 0x1805, 0x2005, 0x4005, 0x8200, 0x8201, 0xFFFF, 0x6000, 0x6700,
            0x6740, 0x603F, 0x613F, 0x643F, 0x67FF, 0x663F, 0x0405};
        for (int instruction : instructions) {
            NovaDesk x = started(PRINTER);
            x.put(5, 1);
            for (int i = 0; i < 2; i++) {
                Desk.step(x, 300, instruction);
            }
            Desk.deviceIs(x, "three ticks, by " + Integer.toHexString(instruction), PRINTER, 1, 0);
            Desk.step(x, 300, instruction);
            Desk.deviceIs(x, "four ticks, by " + Integer.toHexString(instruction), PRINTER, 0, 1);
        }
    }

    private static void lostOnesAreNone() {
        Check.terms("Behind each instruction: of each device that is BUSY a tick goes by");
        NovaDesk x = started(PRINTER);
        x.put(5, 0x8005);
        for (int i = 0; i < 10; i++) {
            Check.same("a lost one", Desk.step(x, 300, 0x0405), 0);
        }
        Desk.deviceIs(x, "a lost one is not done: no tick", PRINTER, 1, 0);
        Desk.idle(x, 2);
        Desk.deviceIs(x, "three ticks", PRINTER, 1, 0);
        Desk.idle(x, 1);
        Desk.deviceIs(x, "four ticks", PRINTER, 0, 1);
        NovaDesk y = started(PRINTER);
        y.put(1, 1);
        y.tape(7);
        y.set(0, 9);
        y.tell(0);
        y.assemble();
        Desk.deviceIs(y, "calls are no ticks", PRINTER, 1, 0);
    }

    private static void startCountsAnew() {
        Check.terms("START of one that is BUSY counts anew)");
        int[] needed = {4, 4, 20};
        for (int d = READER; d <= CLOCK; d++) {
            int last = needed[d - READER];
            for (int before = 1; before < last; before++) {
                NovaDesk x = started(d);
                if (before > 1) {
                    Desk.idle(x, before - 1);
                }
                Desk.step(x, 100, START | d);
                Desk.idle(x, last - 2);
                Desk.deviceIs(x, "anew behind " + before + ", one too few", d, 1, 0);
                x.run(1);
                Desk.deviceIs(x, "anew behind " + before, d, 0, 1);
            }
        }
    }

    private static void startWhenDone() {
        Check.terms("Otherwise, then, control: 1 START: BUSY, not DONE; 2 CLEAR: neither; 3 nothing.");
        int[] needed = {4, 4, 20};
        for (int d = READER; d <= CLOCK; d++) {
            int last = needed[d - READER];
            NovaDesk x = started(d);
            x.tape(1);
            Desk.idle(x, 30);
            Desk.deviceIs(x, "DONE", d, 0, 1);
            Desk.step(x, 100, START | d);
            Desk.deviceIs(x, "START again", d, 1, 0);
            Desk.idle(x, last - 2);
            Desk.deviceIs(x, "one too few", d, 1, 0);
            x.run(1);
            Desk.deviceIs(x, "again", d, 0, 1);
            Desk.step(x, 100, START | d);
            Desk.idle(x, 2);
            Desk.step(x, 100, CLEAR | d);
            Desk.idle(x, 30);
            Desk.deviceIs(x, "CLEAR ends it", d, 0, 0);
        }
    }

    private static void stoppedAtTheLast() {
        Check.terms("Behind each instruction: of each device that is BUSY a tick goes by");
        int[] needed = {4, 4, 20};
        for (int d = READER; d <= CLOCK; d++) {
            for (int instruction : new int[] {START | d, CLEAR | d, IORST}) {
                NovaDesk x = started(d);
                Desk.idle(x, needed[d - READER] - 2);
                Desk.step(x, 300, instruction);
                Desk.deviceIs(x, "what would be the last one, by " + instruction, d, instruction == (START | d) ? 1 : 0, 0);
                Check.same("nothing was printed", x.tear(), 0);
                Check.same("nothing was read", x.tape(1), 2);
            }
        }
    }

    private static void readerWaitsForTape() {
        Check.terms("(and each further one, if it has none then) takes the next character of its tape, if there is one, as its"
                + " word: DONE, not BUSY;");
        for (int without = 4; without <= 9; without++) {
            NovaDesk x = new NovaDesk();
            Desk.step(x, 100, START | READER);
            Desk.idle(x, without - 1);
            Desk.deviceIs(x, without + " ticks without a tape", READER, 1, 0);
            x.tape(255);
            x.tape(7);
            Desk.deviceIs(x, "a tape alone is no tick", READER, 1, 0);
            Desk.idle(x, 1);
            Desk.deviceIs(x, "the next tick", READER, 0, 1);
            Check.same("its word", x.device(READER, 0), 255);
            Check.same("one is left, and one more", x.tape(8), 2);
        }
        NovaDesk x = new NovaDesk();
        Desk.step(x, 100, START | READER);
        Desk.idle(x, 2);
        x.tape(33);
        Check.same("not before the fourth", x.device(READER, 2), 0);
        Desk.idle(x, 1);
        Check.same("at the fourth", x.device(READER, 0), 33);
        NovaDesk y = new NovaDesk();
        Desk.step(y, 100, START | READER);
        Desk.idle(y, 5000);
        Desk.deviceIs(y, "it waits on", READER, 1, 0);
        y.tape(0);
        Desk.idle(y, 1);
        Desk.deviceIs(y, "a character 0 is one, too", READER, 0, 1);
        Check.same("its word", y.device(READER, 0), 0);
    }

    private static void readerTakesInOrder() {
        Check.terms("takes the next character of its tape, if there is one, as its word: DONE, not BUSY;");
        NovaDesk x = Desk.at(0, START | READER, Desk.NEXT, Desk.NEXT);
        for (int i = 0; i < 100; i++) {
            x.tape(255 - i);
        }
        for (int i = 0; i < 100; i++) {
            x.run(4);
            Check.same("character " + i, x.device(READER, 0), 255 - i);
        }
        x.run(4);
        Desk.deviceIs(x, "behind the last", READER, 1, 0);
        Check.same("the word stays until the next", x.device(READER, 0), 156);
    }

    private static void printerPrintsItsWord() {
        Check.terms("the printer's fourth one prints its word, the clock's twentieth: likewise.");
        NovaDesk x = Desk.with("DOAS 0,TTO", "DOA 1,TTO", "MOV 0,0", "DOA 2,TTO", "DOA 3,TTO", "JMP .");
        x.set(0, 0x41);
        x.set(1, 0x42);
        x.set(2, 0x143);
        x.set(3, 0x44);
        x.run(3);
        Check.same("not yet", x.printed(0), -1);
        x.run(1);
        Check.same("the word that it has then, of the fourth instruction itself", x.printed(0), 0x43);
        x.run(10);
        Check.same("later words are not printed", x.printed(0), 0x43);
        Check.same("no more", x.printed(1), -1);
        Check.same("the word stays", x.device(PRINTER, 0), 0x44);
        Desk.step(x, 100, START | PRINTER);
        Desk.idle(x, 3);
        Check.same("START alone prints the word that is there", x.printed(1), 0x44);
    }

    private static void onceOnly() {
        Check.terms("of each device that is BUSY a tick goes by");
        NovaDesk x = started(PRINTER);
        Desk.step(x, 100, START | READER);
        Desk.step(x, 100, START | CLOCK);
        Desk.idle(x, 5000);
        for (int d = READER; d <= CLOCK; d++) {
            Desk.deviceIs(x, "no ticks of one that is not BUSY", d, 0, 1);
        }
        Check.same("one was printed", x.tear(), 1);
        Check.same("one was read", x.tape(1), 1);
    }

    private static void allAtOnce() {
        Check.terms("Behind each instruction: of each device that is BUSY a tick goes by");
        NovaDesk x = new NovaDesk();
        x.tape(5);
        Desk.step(x, 100, START | CLOCK);
        Desk.step(x, 100, START | READER);
        Desk.step(x, 100, START | PRINTER);
        for (int i = 1; i < 4; i++) {
            Desk.idle(x, 1);
            Desk.deviceIs(x, "the reader, " + (2 + i), READER, i >= 2 ? 0 : 1, i >= 2 ? 1 : 0);
            Desk.deviceIs(x, "the printer, " + (1 + i), PRINTER, i >= 3 ? 0 : 1, i >= 3 ? 1 : 0);
            Desk.deviceIs(x, "the clock, " + (3 + i), CLOCK, 1, 0);
        }
        Desk.idle(x, 13);
        Desk.deviceIs(x, "19", CLOCK, 1, 0);
        Desk.idle(x, 1);
        Desk.deviceIs(x, "20", CLOCK, 0, 1);
    }

    private static void tapeCounts() {
        Check.promise(7, "A character comes behind the reader's tape: how many are on it, still to be read.");
        NovaDesk x = Desk.at(0, START | READER, Desk.NEXT, Desk.NEXT);
        Check.same("the first", x.tape(0), 1);
        Check.same("the second", x.tape(255), 2);
        Check.same("the third", x.tape(128), 3);
        x.run(4);
        Check.same("one was read", x.tape(1), 3);
        x.run(8);
        Check.same("two more were read", x.tape(2), 2);
        x.run(4);
        x.run(4);
        Check.same("all were read", x.device(READER, 0), 2);
        Check.same("the first again", x.tape(3), 1);
        Check.same("tape() alone reads nothing", x.device(READER, 0), 2);
    }

    /** A program that prints a character by each four instructions, each one more than the last. */
    private static NovaDesk printing() {
        return Desk.at(0, 0x6249, 0x8300, Desk.NEXT);
    }

    private static void printedFirstThousand() {
        Check.promise(10, "Character i that was printed (the first 1000); NONE when there is none.");
        NovaDesk x = printing();
        Check.same("nothing yet", x.printed(0), -1);
        x.run(4 * 999);
        Check.same("the last of 999", x.printed(998), 998 & 255);
        Check.same("none behind it", x.printed(999), -1);
        x.run(4);
        Check.same("the last of 1000", x.printed(999), 999 & 255);
        Check.same("none behind it", x.printed(1000), -1);
        x.run(4);
        Check.same("the 1001st is none", x.printed(1000), -1);
        Check.same("the 1000th stays", x.printed(999), 999 & 255);
        x.run(400);
        Check.same("further ones are none", x.printed(1100), -1);
        for (int i = 0; i < 1000; i += 37) {
            Check.same("printed " + i, x.printed(i), i & 255);
        }
        for (int i : new int[] {-1, Integer.MIN_VALUE, Integer.MAX_VALUE, 65536}) {
            Check.same("printed " + i, x.printed(i), -1);
        }
        Check.same("a character is told as often as asked", x.printed(255), 255);
    }

    private static void tearCountsAnew() {
        Check.promise(11, "How many were printed in all; none are any more.");
        NovaDesk x = printing();
        Check.same("nothing printed", x.tear(), 0);
        x.run(4);
        Check.same("one", x.tear(), 1);
        Check.same("none any more", x.tear(), 0);
        Check.same("none to be shown", x.printed(0), -1);
        x.run(4000);
        Check.same("1000", x.tear(), 1000);
        x.run(4004);
        Check.same("1001", x.tear(), 1001);
        Check.same("none any more", x.printed(999), -1);
        x.run(5000);
        x.run(5000);
        Check.same("more than are shown", x.tear(), 2500);
        x.set(0, 300);
        x.run(8);
        Check.same("the first one anew", x.printed(0), 300 & 255);
        Check.same("the second one anew", x.printed(1), 301 & 255);
        Check.same("no former ones", x.printed(2), -1);
        x.run(2);
        Check.same("one that is not yet printed is not counted", x.tear(), 2);
        x.run(2);
        Check.same("it is printed all the same", x.tear(), 1);
    }
}
