import java.util.ArrayList;
import java.util.List;

/** An object in the midst of everything, and all that calls can show of it. */
final class Busy {
    /** How many characters the text of desk() has. */
    static final int TEXT_LENGTH = 13;

    private Busy() {
    }

    /**
     * Every row of it holds something: words, registers, all devices, the tape, the paper, labels of
     * one text, the fault of a later one, a text that is not yet assembled, and what was told. It has
     * halted, lets interrupts in just now, and the printer asks.
     */
    static NovaDesk desk() {
        NovaDesk x = Desk.with(".LOC 1", "HAND", ".LOC 20", "500", ".LOC 100", "START: INTEN", "DOAS 0,TTO", "INC 0,0",
                "INC 0,0", "INC 0,0", "MSKO 1", "DOAS 0,TTO", "INC 0,0", "NIOS RTC", "INC 0,0", "NIOS TTI",
                "DOCS 0,CPU", "ISZ 20", "JMP .-1", ".LOC 200", "HAND: INTA 3", "NIOC TTO", "JMP @0");
        int[] registers = {65, 0xFFFA, 777, 888, 1, 64, 54321};
        for (int r = 0; r < registers.length; r++) {
            x.set(r, registers[r]);
        }
        x.put(32767, 4321);
        x.tape(200);
        x.tape(100);
        x.tape(50);
        x.run(5000);
        x.tell(69);
        Desk.assemble(x, "5\nA: B");
        Desk.type(x, "X: 5\nY: X+12\n");
        return x;
    }

    /** All that calls can show; the object is used up by that, but within its 512 calls. */
    static List<String> shown(NovaDesk x) {
        List<String> all = new ArrayList<>();
        showAtRest(x, all);
        showText(x, all);
        showGoingOn(x, all);
        showTape(x, all);
        return all;
    }

    private static void show(List<String> all, String what, int got) {
        all.add(what + " = " + got);
    }

    private static void showAtRest(NovaDesk x, List<String> all) {
        for (int r = 0; r <= 10; r++) {
            show(all, "register " + r, x.register(r));
        }
        for (int d = 8; d <= 10; d++) {
            for (int what = 0; what <= 2; what++) {
                show(all, "device " + d + "," + what, x.device(d, what));
            }
        }
        for (int i = 0; i < 12; i++) {
            show(all, "printed " + i, x.printed(i));
            show(all, "told " + i, x.told(i));
        }
        for (String name : new String[] {"START", "HAND", "A", "X"}) {
            show(all, "label " + name, Desk.label(x, name));
        }
        for (int address = 0; address < 140; address += address < 20 || address >= 64 ? 1 : 11) {
            show(all, "word " + address, x.word(address));
        }
        show(all, "last word", x.word(32767));
        show(all, "why", x.why());
        show(all, "fault", x.fault(0));
        show(all, "fault's line", x.fault(1));
    }

    private static void showText(NovaDesk x, List<String> all) {
        show(all, "text", x.feed(0, 0, 0, 0, 0));
        x.end(TEXT_LENGTH);
        show(all, "assemble", x.assemble());
        show(all, "fault then", x.fault(0));
        show(all, "X", Desk.label(x, "X"));
        show(all, "word 0 then", x.word(0));
        show(all, "word 1 then", x.word(1));
    }

    /** Ticks that have gone by, and whether an interrupt still waits, show step by step. */
    private static void showGoingOn(NovaDesk x, List<String> all) {
        x.put(1, 128);
        for (int i = 0; i < 24; i++) {
            show(all, "run " + i, x.run(1));
            show(all, "PC " + i, x.register(5));
            for (int d = 8; d <= 10; d++) {
                show(all, "DONE of " + d + " at " + i, x.device(d, 2));
            }
        }
        show(all, "torn", x.tear());
    }

    private static void showTape(NovaDesk x, List<String> all) {
        show(all, "tape", x.tape(255));
        Desk.step(x, 200, 0x60BF);
        for (int i = 0; i < 4; i++) {
            Desk.step(x, 200, 0x6048);
            Desk.idle(x, 3);
            show(all, "read " + i, x.device(8, 0));
        }
    }
}
