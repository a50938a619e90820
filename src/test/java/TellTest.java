/** Promises 18 and 19: tell and told. (What tell refuses: RefusalTest.) */
final class TellTest {
    private static final String[] CONTROLS = {"", "S", "C", "P"};
    private static final String[] SKIPS = {"", ",SKP", ",SZC", ",SNC", ",SZR", ",SNR", ",SEZ", ",SBN"};

    public static void main(String[] args) {
        addresses();
        arithmetic();
        devices();
        specialNames();
        numbers();
        atEveryAddress();
        tellsAlone();
        told();
        toldLatest();
        everyWord();
        Check.finish();
    }

    private static void tells(int word, String due) {
        NovaDesk x = new NovaDesk();
        x.put(32767, word);
        Check.same("how many characters of " + Integer.toOctalString(word), x.tell(32767), due.length());
        Check.same("told of " + Integer.toOctalString(word), Desk.tell(x, 32767), due);
        Check.same("none behind " + due, x.told(due.length()), -1);
    }

    private static void addresses() {
        Check.promise(18, "D of a mode 1 to 3 as 0 to 177 or 177600 to 177777, the mode behind it (none behind mode 0);");
        tells(0x0000, "JMP 0");
        tells(0x007F, "JMP 177");
        tells(0x0080, "JMP 200");
        tells(0x00FF, "JMP 377");
        tells(0x0407, "JMP @7");
        tells(0x04FF, "JMP @377");
        tells(0x0100, "JMP 0,1");
        tells(0x097F, "JSR 177,1");
        tells(0x1280, "ISZ 177600,2");
        tells(0x1FFF, "DSZ @177777,3");
        tells(0x2000, "LDA 0,0");
        tells(0x3D7F, "LDA 3,@177,1");
        tells(0x4800, "STA 1,0");
        tells(0x5FFF, "STA 3,@177777,3");
        tells(0x5F80, "STA 3,@177600,3");
    }

    private static void arithmetic() {
        Check.promise(18, "The statement's name with its further letters and '#', a blank, and what it has, parted by ',', in the"
                + " order above;");
        String[] functions = {"COM", "NEG", "MOV", "INC", "ADC", "SUB", "ADD", "AND"};
        for (int f = 0; f < 8; f++) {
            tells(0x8000 | f << 8, functions[f] + " 0,0");
        }
        tells(0xA510, "SUBZ 1,0");
        tells(0xCE60, "ADDOL 2,1");
        tells(0xFFFF, "ANDCS# 3,3,SBN");
        tells(0x8280, "MOVR 0,0");
        tells(0x8208, "MOV# 0,0");
        tells(0x8220, "MOVO 0,0");
        Check.promise(18, "skips by their names (none for 0);");
        for (int skip = 0; skip < 8; skip++) {
            tells(0x8200 | skip, "MOV 0,0" + SKIPS[skip]);
            tells(0x8208 | skip, "MOV# 0,0" + SKIPS[skip]);
        }
    }

    private static void devices() {
        Check.promise(18, "accumulators, devices and D as numbers without zeros in front");
        tells(0x6000, "NIO 0");
        tells(0x6001, "NIO 1");
        tells(0x6007, "NIO 7");
        tells(0x6048, "NIOS 10");
        tells(0x6089, "NIOC 11");
        tells(0x60CA, "NIOP 12");
        tells(0x603E, "NIO 76");
        tells(0x6900, "DIA 1,0");
        tells(0x6249, "DOAS 0,11");
        tells(0x6381, "DIBC 0,1");
        tells(0x64C1, "DOBP 0,1");
        tells(0x7D01, "DIC 3,1");
        tells(0x7E01, "DOC 3,1");
        tells(0x6708, "SKPBN 10");
        tells(0x6748, "SKPBZ 10");
        tells(0x6788, "SKPDN 10");
        tells(0x67C8, "SKPDZ 10");
    }

    private static void specialNames() {
        Check.promise(18, "with the device 77 the special names where there is one (else NIO and so on).");
        tells(0x607F, "INTEN");
        tells(0x60BF, "INTDS");
        tells(0x663F, "HALT");
        tells(0x653F, "IORST");
        for (int a = 0; a < 4; a++) {
            tells(0x613F | a << 11, "READS " + a);
            tells(0x633F | a << 11, "INTA " + a);
            tells(0x643F | a << 11, "MSKO " + a);
        }
        tells(0x603F, "NIO 77");
        tells(0x60FF, "NIOP 77");
        tells(0x617F, "DIAS 0,77");
        tells(0x623F, "DOA 0,77");
        tells(0x63BF, "DIBC 0,77");
        tells(0x64FF, "DOBP 0,77");
        tells(0x6D3F, "DIC 1,77");
        tells(0x65BF, "DICC 0,77");
        tells(0x6E3F, "DOC 1,77");
        tells(0x667F, "DOCS 0,77");
        tells(0x673F, "SKPBN 77");
        tells(0x67FF, "SKPDZ 77");
        tells(0x607E, "NIOS 76");
        tells(0x663E, "DOC 0,76");
    }

    private static void numbers() {
        Check.promise(18, "If none makes it: its number.");
        tells(0x6800, "64000");
        tells(0x78FF, "74377");
        tells(0x687F, "64177");
        tells(0x70BF, "70277");
        tells(0x6F00, "67400");
        tells(0x7FC8, "77710");
        tells(0x6FFF, "67777");
        tells(0x7FFF, "77777");
    }

    private static void atEveryAddress() {
        Check.promise(18, "Tells the word at an address as a statement that makes just that word there: how many characters.");
        NovaDesk x = new NovaDesk();
        for (int address : new int[] {0, 1, 100, 255, 256, 32766, 32767}) {
            x.put(address, 0x0180);
            Check.same("not by its place: " + address, Desk.tell(x, address), "JMP 177600,1");
        }
        x.put(0, 0x663F);
        Check.same("the first word", Desk.tell(x, 0), "HALT");
        x.put(32767, 0x607F);
        Check.same("the last word", Desk.tell(x, 32767), "INTEN");
        Check.same("the words stay", x.word(32767), 0x607F);
    }

    private static void tellsAlone() {
        Check.promise(18, "Tells the word at an address as a statement that makes just that word there: how many characters.");
        NovaDesk x = Desk.with("NIOS TTO", "INTEN", "7");
        Desk.feed(x, "5");
        x.tell(0);
        x.tell(1);
        Check.same("telling is not doing: the PC", x.register(5), 0);
        Check.same("telling is not doing: BUSY", x.device(9, 1), 0);
        Check.same("telling is not doing: ION", x.register(7), 0);
        Check.same("the text stays", x.feed(0, 0, 0, 0, 0), 40);
    }

    private static void told() {
        Check.promise(19, "Character i of what was told latest; NONE when there is none.");
        NovaDesk x = new NovaDesk();
        for (int i : new int[] {-1, 0, 1, Integer.MIN_VALUE, Integer.MAX_VALUE}) {
            Check.same("told(" + i + ") before any", x.told(i), -1);
        }
        x.put(5, 0x663F);
        Check.same("tell", x.tell(5), 4);
        int[] due = {'H', 'A', 'L', 'T', -1, -1};
        for (int i = 0; i < due.length; i++) {
            Check.same("told(" + i + ")", x.told(i), due[i]);
        }
        for (int i : new int[] {-1, 31, 32, 33, 1000, Integer.MIN_VALUE, Integer.MAX_VALUE}) {
            Check.same("told(" + i + ")", x.told(i), -1);
        }
        x.put(6, 0xFFFF);
        Check.same("the longest", x.tell(6), 14);
        Check.same("its last character", x.told(13), 'N');
        Check.same("none behind it", x.told(14), -1);
        x.put(7, 0x3DFF);
        Check.same("the longest address", x.tell(7), 15);
        Check.same("its last character", x.told(14), '1');
        Check.same("none behind it", x.told(15), -1);
    }

    private static void toldLatest() {
        Check.promise(19, "Character i of what was told latest; NONE when there is none.");
        NovaDesk x = new NovaDesk();
        x.put(1, 0xFFFF);
        x.tell(1);
        x.put(1, 0);
        Check.same("the word as it was", x.told(0), 'A');
        x.run(1);
        Desk.assemble(x, "?");
        Check.same("other calls leave it", x.told(13), 'N');
        Check.refuses("tell(32768)", () -> x.tell(32768));
        Check.same("a refused one leaves it", x.told(13), 'N');
        Check.same("the latest", Desk.tell(x, 1), "JMP 0");
        Check.same("nothing of the former", x.told(5), -1);
        Check.same("nor further on", x.told(13), -1);
    }

    /** Every word against what is written here, and assembled again at its place. */
    private static void everyWord() {
        Check.promise(18, "Tells the word at an address as a statement that makes just that word there: how many characters.");
        NovaDesk x = new NovaDesk();
        for (int word = 0; word < 65536; word++) {
            if (word % 16 == 0) {
                x = new NovaDesk();
            }
            int address = word * 7 & 32767;
            x.put(address, word);
            String told = Desk.tell(x, address);
            Check.same("told of " + Integer.toOctalString(word), told, due(word));
            x.put(address, ~word & 65535);
            String text = ".LOC " + Integer.toOctalString(address) + "\n" + told;
            Check.same("assemble of " + text, Desk.assemble(x, text), 1);
            Check.same("word of " + text, x.word(address), word);
        }
    }

    private static String due(int word) {
        if (word >= 0x8000) {
            String name = "COMNEGMOVINCADCSUBADDAND".substring((word >> 8 & 7) * 3, (word >> 8 & 7) * 3 + 3);
            String[] bases = {"", "Z", "O", "C"};
            String[] shifts = {"", "L", "R", "S"};
            return name + bases[word >> 4 & 3] + shifts[word >> 6 & 3] + ((word & 8) != 0 ? "# " : " ") + (word >> 13 & 3) + ","
                    + (word >> 11 & 3) + SKIPS[word & 7];
        }
        if (word >= 0x6000) {
            return dueOfDevice(word, word >> 11 & 3, word >> 8 & 7, word >> 6 & 3);
        }
        int mode = word >> 8 & 3;
        int d = mode != 0 && (word & 128) != 0 ? word & 255 | 0xFF00 : word & 255;
        String address = ((word & 0x400) != 0 ? "@" : "") + Integer.toOctalString(d) + (mode == 0 ? "" : "," + mode);
        if (word >= 0x2000) {
            return (word < 0x4000 ? "LDA " : "STA ") + (word >> 11 & 3) + "," + address;
        }
        return "JMPJSRISZDSZ".substring((word >> 11) * 3, (word >> 11) * 3 + 3) + " " + address;
    }

    private static String dueOfDevice(int word, int a, int what, int control) {
        String device = Integer.toOctalString(word & 63);
        if ((what == 0 || what == 7) && a != 0) {
            return Integer.toOctalString(word);
        }
        if (what == 7) {
            String[] tests = {"SKPBN ", "SKPBZ ", "SKPDN ", "SKPDZ "};
            return tests[control] + device;
        }
        String special = (word & 63) == 63 ? special(a, what, control) : "";
        if (!special.isEmpty()) {
            return special;
        }
        String[] names = {"NIO", "DIA", "DOA", "DIB", "DOB", "DIC", "DOC"};
        return names[what] + CONTROLS[control] + " " + (what == 0 ? "" : a + ",") + device;
    }

    private static String special(int a, int what, int control) {
        if (what == 0) {
            return control == 1 ? "INTEN" : control == 2 ? "INTDS" : "";
        }
        if (control != 0) {
            return "";
        }
        switch (what) {
            case 1: return "READS " + a;
            case 3: return "INTA " + a;
            case 4: return "MSKO " + a;
            case 5: return a == 0 ? "IORST" : "";
            case 6: return a == 0 ? "HALT" : "";
            default: return "";
        }
    }
}
