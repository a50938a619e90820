import java.util.List;
import java.util.function.Consumer;

/** "A call that throws changes nothing.": every call that may throw, by every number that it may not have. */
final class RefusalTest {
    private static final int MIN = Integer.MIN_VALUE;
    private static final int MAX = Integer.MAX_VALUE;
    private static List<String> unchanged;

    public static void main(String[] args) {
        busyHoldsEverything();
        console();
        devices();
        running();
        texts();
        telling();
        fullTape();
        fullText();
        Check.finish();
    }

    private static void refused(String call, Consumer<NovaDesk> calling) {
        NovaDesk x = Busy.desk();
        Check.refuses(call, () -> calling.accept(x));
        Check.same("behind " + call, Busy.shown(x), unchanged);
    }

    /** What the others rest on: nothing of the object is as at first, so that a change would show. */
    private static void busyHoldsEverything() {
        Check.terms("A call that throws changes nothing.");
        unchanged = Busy.shown(Busy.desk());
        NovaDesk x = Busy.desk();
        int[] registers = {70, 0xFFFA, 777, 9, 1, 76, 54321, 1, 2, 15, 1};
        for (int r = 0; r < registers.length; r++) {
            Check.same("register " + r, x.register(r), registers[r]);
        }
        int[][] devices = {{0, 1, 0}, {68, 0, 1}, {0, 1, 0}};
        for (int d = 0; d < 3; d++) {
            for (int what = 0; what < 3; what++) {
                Check.same("device " + (8 + d) + "," + what, x.device(8 + d, what), devices[d][what]);
            }
        }
        Check.same("why", x.why(), 1);
        Check.same("the first printed", x.printed(0), 65);
        Check.same("the second printed", x.printed(1), 68);
        Check.same("told", x.told(0), 'M');
        Check.same("fault", x.fault(0), 3);
        Check.same("its line", x.fault(1), 2);
        Check.same("label", Desk.label(x, "HAND"), 128);
        Check.same("tape", x.tape(1), 4);
    }

    private static void console() {
        Check.terms("IllegalArgumentException: a number is not as it may be.");
        refused("put(-1, -1)", x -> x.put(-1, -1));
        refused("set(7, 65536)", x -> x.set(7, 65536));
        refused("device(11, 3)", x -> x.device(11, 3));
        Check.promise(2, "IllegalArgumentException: address is not 0 .. 32767, v not 0 .. 65535.");
        for (int address : new int[] {-1, 32768, 65535, 65536, MIN, MAX}) {
            refused("put(" + address + ", 7)", x -> x.put(address, 7));
        }
        for (int v : new int[] {-1, 65536, MIN, MAX}) {
            refused("put(0, " + v + ")", x -> x.put(0, v));
            refused("put(32767, " + v + ")", x -> x.put(32767, v));
        }
        Check.promise(3, "A word of memory. IllegalArgumentException.");
        for (int address : new int[] {-1, 32768, 65536, MIN, MAX}) {
            refused("word(" + address + ")", x -> x.word(address));
        }
        Check.promise(4, "IllegalArgumentException: v is not 0 .. 65535 (1 of CARRY, 32767 of PC), or there is none such.");
        int[] highest = {65535, 65535, 65535, 65535, 1, 32767, 65535};
        for (int r = 0; r <= 6; r++) {
            int register = r;
            for (int v : new int[] {-1, highest[r] + 1, MIN, MAX}) {
                refused("set(" + r + ", " + v + ")", x -> x.set(register, v));
            }
        }
        for (int r : new int[] {-1, 7, 8, 9, 10, 11, MIN, MAX}) {
            refused("set(" + r + ", 0)", x -> x.set(r, 0));
        }
        Check.promise(5, "10 how many interrupts (lost ones, too). IllegalArgumentException.");
        for (int r : new int[] {-1, 11, MIN, MAX}) {
            refused("register(" + r + ")", x -> x.register(r));
        }
    }

    private static void devices() {
        Check.promise(6, "BUSY (1), DONE (2). IllegalArgumentException.");
        for (int d : new int[] {-1, 0, 7, 11, 63, MIN, MAX}) {
            refused("device(" + d + ", 0)", x -> x.device(d, 0));
        }
        for (int what : new int[] {-1, 3, MIN, MAX}) {
            for (int d = 8; d <= 10; d++) {
                int device = d;
                refused("device(" + d + ", " + what + ")", x -> x.device(device, what));
            }
        }
        Check.promise(7, "IllegalArgumentException: c is not 0 .. 255.");
        for (int c : new int[] {-1, 256, MIN, MAX}) {
            refused("tape(" + c + ")", x -> x.tape(c));
        }
    }

    private static void running() {
        Check.promise(8, "IllegalArgumentException: n is not 1 .. 5000.");
        for (int n : new int[] {0, -1, 5001, MIN, MAX}) {
            refused("run(" + n + ")", x -> x.run(n));
        }
    }

    private static void texts() {
        Check.promise(14, "IllegalArgumentException: it has not so many, or n is below 0.");
        for (int n : new int[] {-1, Busy.TEXT_LENGTH + 1, 20, 6001, MIN, MAX}) {
            refused("end(" + n + ")", x -> x.end(n));
        }
        Check.promise(16, "0 without one. IllegalArgumentException.");
        for (int what : new int[] {-1, 2, MIN, MAX}) {
            refused("fault(" + what + ")", x -> x.fault(what));
        }
    }

    private static void telling() {
        Check.promise(18, "If none makes it: its number. IllegalArgumentException.");
        for (int address : new int[] {-1, 32768, 65536, MIN, MAX}) {
            refused("tell(" + address + ")", x -> x.tell(address));
        }
    }

    /** Just the 512 calls that an object is made for. */
    private static void fullTape() {
        Check.promise(7, "IllegalStateException: there are 500.");
        // START and three more ticks: each four instructions read a character.
        NovaDesk x = Desk.at(0, 0x6048, Desk.NEXT, Desk.NEXT);
        for (int i = 1; i <= 500; i++) {
            Check.same("tape " + i, x.tape(i * 7 & 255), i);
        }
        Check.isFull("the 501st", () -> x.tape(1));
        x.run(4);
        Check.same("what is read makes room", x.tape(2), 500);
        x.run(4 * 499);
        Check.same("the 500th is the last that was there before", x.device(8, 0), 500 * 7 & 255);
        x.run(4);
        Check.same("the refused one is not on it", x.device(8, 0), 2);

        NovaDesk y = Desk.at(0, 0x6048, Desk.NEXT, Desk.NEXT);
        for (int i = 1; i <= 500; i++) {
            y.tape(9);
        }
        Check.isFull("tape(255)", () -> y.tape(255));
        Check.isFull("tape(0)", () -> y.tape(0));
        Check.refuses("tape(256): c is not as it may be", () -> y.tape(256));
        Check.refuses("tape(-1): c is not as it may be", () -> y.tape(-1));
        y.run(4);
        Check.same("the first one is still there", y.device(8, 0), 9);
    }

    private static void fullText() {
        Check.promise(13, "IllegalStateException: there would be more than 6000.");
        NovaDesk x = new NovaDesk();
        Desk.feed(x, "5" + " ".repeat(5998) + ";");
        Check.isFull("at 6000", () -> x.feed(0x0A360A36, 0x0A360A36, 0x0A360A36, 0x0A360A36, 0x0A360A36));
        Check.refuses("there are no more", () -> x.end(6001));
        x.end(6000);
        Check.same("the text is as it was", x.assemble(), 1);
        Check.same("its word", x.word(0), 5);

        NovaDesk y = new NovaDesk();
        Desk.feed(y, " ".repeat(5980) + "7" + " ".repeat(18) + ";");
        for (int length : new int[] {5999, 5981}) {
            y.end(length);
            Check.isFull("at " + length, () -> y.feed(0x0A360A36, 0x0A360A36, 0x0A360A36, 0x0A360A36, 0x0A360A36));
            Check.refuses("there are no more than " + length, () -> y.end(length + 1));
        }
        Check.same("the text is as it was, up to its end", y.assemble(), 1);
        Check.same("its word", y.word(0), 7);

        NovaDesk z = new NovaDesk();
        Desk.feed(z, " ".repeat(5980));
        Check.same("to just 6000", z.feed(0x31200A20, 0x320A330A, 0x340A350A, 0x360A370A, 0x3120200A), 6000);
        Check.same("all of it", z.assemble(), 8);
    }
}
