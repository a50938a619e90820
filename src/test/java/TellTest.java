/** Promises 18 and 19: tell and told. */
final class TellTest {
    public static void main(String[] args) {
        wrongInputs();
        examples();
        changesOfTold();
        everyWord();
        Check.finish();
    }

    private static void wrongInputs() {
        NovaDesk x = new NovaDesk();
        Check.refuses("tell(-1)", () -> x.tell(-1));
        Check.refuses("tell(32768)", () -> x.tell(32768));
        Check.same("told before any", x.told(0), -1);
        x.put(5, 0x663F);
        Check.same("tell", x.tell(5), 4);
        Check.refuses("tell(32768)", () -> x.tell(32768));
        Check.same("told stays", x.told(0), 'H');
        Check.same("told(-1)", x.told(-1), -1);
        Check.same("told(3)", x.told(3), 'T');
        Check.same("told(4)", x.told(4), -1);
        Check.same("told(MAX)", x.told(Integer.MAX_VALUE), -1);
        Check.same("told(MIN)", x.told(Integer.MIN_VALUE), -1);
    }

    private static void examples() {
        tells(0x0000, "JMP 0");
        tells(0x00FF, "JMP 377");
        tells(0x0407, "JMP @7");
        tells(0x0908, "JSR 10,1");
        tells(0x1280, "ISZ 177600,2");
        tells(0x1FFF, "DSZ @177777,3");
        tells(0x2000, "LDA 0,0");
        tells(0x3D7F, "LDA 3,@177,1");
        tells(0x4800, "STA 1,0");
        tells(0x8000, "COM 0,0");
        tells(0x8100, "NEG 0,0");
        tells(0x8200, "MOV 0,0");
        tells(0x8300, "INC 0,0");
        tells(0x8400, "ADC 0,0");
        tells(0xA510, "SUBZ 1,0");
        tells(0xCE60, "ADDOL 2,1");
        tells(0xFFFF, "ANDCS# 3,3,SBN");
        tells(0x8281, "MOVR 0,0,SKP");
        tells(0x8202, "MOV 0,0,SZC");
        tells(0x8203, "MOV 0,0,SNC");
        tells(0x820C, "MOV# 0,0,SZR");
        tells(0x8205, "MOV 0,0,SNR");
        tells(0x8206, "MOV 0,0,SEZ");
        tells(0x6000, "NIO 0");
        tells(0x6048, "NIOS 10");
        tells(0x6089, "NIOC 11");
        tells(0x60CA, "NIOP 12");
        tells(0x6800, "64000");
        tells(0x6900, "DIA 1,0");
        tells(0x6249, "DOAS 0,11");
        tells(0x6381, "DIBC 0,1");
        tells(0x64C1, "DOBP 0,1");
        tells(0x7D01, "DIC 3,1");
        tells(0x7E01, "DOC 3,1");
        tells(0x6708, "SKPBN 10");
        tells(0x6748, "SKPBZ 10");
        tells(0x6788, "SKPDN 10");
        tells(0x67C8, "SKPDZ 10");
        tells(0x7FC8, "77710");
        specialNames();
    }

    private static void specialNames() {
        tells(0x603F, "NIO 77");
        tells(0x607F, "INTEN");
        tells(0x60BF, "INTDS");
        tells(0x60FF, "NIOP 77");
        tells(0x687F, "64177");
        tells(0x613F, "READS 0");
        tells(0x793F, "READS 3");
        tells(0x617F, "DIAS 0,77");
        tells(0x623F, "DOA 0,77");
        tells(0x6B3F, "INTA 1");
        tells(0x63BF, "DIBC 0,77");
        tells(0x743F, "MSKO 2");
        tells(0x64FF, "DOBP 0,77");
        tells(0x653F, "IORST");
        tells(0x6D3F, "DIC 1,77");
        tells(0x65BF, "DICC 0,77");
        tells(0x663F, "HALT");
        tells(0x6E3F, "DOC 1,77");
        tells(0x667F, "DOCS 0,77");
        tells(0x673F, "SKPBN 77");
        tells(0x67FF, "SKPDZ 77");
        tells(0x6FFF, "67777");
    }

    private static void tells(int word, String due) {
        NovaDesk x = new NovaDesk();
        x.put(32767, word);
        Check.same("told of " + Integer.toOctalString(word), Desk.tell(x, 32767), due);
    }

    private static void changesOfTold() {
        NovaDesk x = new NovaDesk();
        x.put(1, 0xFFFF);
        x.tell(1);
        x.put(1, 0);
        Check.same("told of the word as it was", x.told(0), 'A');
        Check.same("the latest", Desk.tell(x, 1), "JMP 0");
        Check.same("nothing of the former", x.told(5), -1);
        x.reset();
        Check.same("none behind reset", x.told(0), -1);
    }

    /** What is told makes the same word again at its place. */
    private static void everyWord() {
        NovaDesk x = new NovaDesk();
        for (int word = 0; word < 65536; word++) {
            if (word % 16 == 0) {
                x = new NovaDesk();
            }
            int address = word * 7 & 32767;
            x.put(address, word);
            String told = Desk.tell(x, address);
            x.put(address, ~word & 65535);
            String text = ".LOC " + Integer.toOctalString(address) + "\n" + told;
            Check.same("assemble of " + text, Desk.assemble(x, text), 1);
            Check.same("word of " + text, x.word(address), word);
            boolean hasName = told.charAt(0) >= 'A';
            boolean isDevice = word >= 0x6000 && word < 0x8000;
            boolean hasFreeAccumulator = (word & 0x0700) == 0 || (word & 0x0700) == 0x0700;
            boolean isNone = isDevice && hasFreeAccumulator && (word & 0x1800) != 0;
            Check.same("has a name: " + text, hasName ? 1 : 0, isNone ? 0 : 1);
        }
    }
}
