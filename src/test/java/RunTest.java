/** Promises 8 and 9: run and why; and how running ends. (What run refuses: RefusalTest.) */
final class RunTest {
    private static final int HALT = 0x663F;

    public static void main(String[] args) {
        counts();
        halts();
        haltIsDone();
        lost();
        why();
        whyStays();
        Check.finish();
    }

    private static void counts() {
        Check.promise(8, "So many instructions at most: how many were done");
        NovaDesk x = Desk.at(100, 0x8300, Desk.NEXT, 0x0102, 0, 100);
        for (int n : new int[] {1, 2, 3, 4999, 5000}) {
            int before = x.register(9);
            Check.same("run(" + n + ")", x.run(n), n);
            Check.same("done by run(" + n + ")", x.register(9), before + n);
            Check.same("why", x.why(), 0);
        }
        NovaDesk y = Desk.at(100, 0x8300, 0x8300, 0x8300);
        y.run(2);
        Check.same("just so many", y.register(0), 2);
        Check.same("the PC", y.register(5), 102);
        NovaDesk z = Desk.at(100, 0x8301, HALT, 0x8300);
        Check.same("one that is skipped is not done", z.run(2), 2);
        Check.same("the PC behind the skip", z.register(5), 103);
    }

    private static void halts() {
        Check.terms("RUNNING ends when it HALTS (the PC is behind that)");
        NovaDesk x = Desk.at(100, 0x8300, HALT, 0x8300, 0x8300, HALT, 0x8300);
        Check.same("to the first", x.run(5000), 2);
        Check.same("why", x.why(), 1);
        Check.same("the PC is behind it", x.register(5), 102);
        Check.same("what was done", x.register(0), 1);
        Check.same("to the second", x.run(5000), 3);
        Check.same("the PC is behind it, too", x.register(5), 105);
        Check.terms("6 the machine HALTS.");
        for (int instruction : new int[] {HALT | 3 << 11, HALT | 1 << 6, HALT | 2 << 6, HALT | 3 << 6}) {
            NovaDesk y = Desk.at(100, instruction, 0x8300);
            Check.same("by any accumulator and control", y.run(2), 1);
            Check.same("why", y.why(), 1);
        }
        for (int instruction : new int[] {0x6608, 0x6609, 0x660A, 0x663E, 0x6600, 0x6627}) {
            NovaDesk y = Desk.at(100, instruction, 0x8300);
            Check.same("not by what 6 of others", y.run(2), 2);
        }
    }

    private static void haltIsDone() {
        Check.promise(8, "how many were done (the one that halts too, one that is lost not).");
        NovaDesk x = Desk.at(100, HALT, HALT);
        Check.same("one that halts at once", x.run(1), 1);
        Check.same("in all", x.register(9), 1);
        Check.same("another one", x.run(5000), 1);
        Check.same("in all then", x.register(9), 2);
        Check.same("the PC", x.register(5), 102);
    }

    private static void lost() {
        Check.promise(8, "how many were done (the one that halts too, one that is lost not).");
        NovaDesk x = Desk.at(100, 0x8300, 0x0432, 0x8300);
        x.put(50, 0x8000 | 50);
        Check.same("one before it", x.run(5000), 1);
        Check.same("why", x.why(), 2);
        Check.same("none", x.run(5000), 0);
        Check.same("why again", x.why(), 2);
        Check.same("in all", x.register(9), 1);
        Check.terms("or is LOST (the PC at the instruction;");
        Check.same("the PC", x.register(5), 101);
        x.put(50, 102);
        Check.same("it goes on there when mended", x.run(2), 2);
        Check.same("what was done", x.register(0), 2);
    }

    private static void why() {
        Check.promise(9, "Why the latest run() ended: 0 all were done, 1 it halted, 2 it was lost; 0 before any.");
        NovaDesk x = Desk.at(100, 0x8300, HALT, 0x8300, 0x0432);
        x.put(50, 0x8000 | 50);
        Check.same("before any", x.why(), 0);
        x.run(1);
        Check.same("all were done", x.why(), 0);
        x.run(1);
        Check.same("it halted, as the last one that it might do", x.why(), 1);
        x.run(1);
        Check.same("all were done again", x.why(), 0);
        x.run(1);
        Check.same("it was lost", x.why(), 2);
        x.set(5, 100);
        x.run(2);
        Check.same("it halted again", x.why(), 1);
        x.set(5, 103);
        x.run(1);
        Check.same("it was lost again", x.why(), 2);
        x.set(5, 100);
        x.run(1);
        Check.same("all were done behind that", x.why(), 0);
    }

    private static void whyStays() {
        Check.promise(9, "Why the latest run() ended: 0 all were done, 1 it halted, 2 it was lost; 0 before any.");
        NovaDesk x = Desk.at(100, HALT);
        x.run(1);
        Check.refuses("run(0)", () -> x.run(0));
        Check.refuses("run(5001)", () -> x.run(5001));
        Check.same("a refused one is no run", x.why(), 1);
        x.set(5, 7);
        x.put(100, 0);
        x.assemble();
        x.tear();
        Check.same("other calls leave it", x.why(), 1);
        Check.same("asking leaves it", x.why(), 1);
    }
}
