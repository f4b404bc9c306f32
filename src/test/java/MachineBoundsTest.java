/** Each sentence of Terms 3 that names a boundary case, with tests of its own. */
public final class MachineBoundsTest {
    private static final int NONE = ShareEight.NONE;
    private static final int STATE = 0;
    private static final int PC = 1;
    private static final int AC = 2;
    private static final int LINK = 3;
    private static final int MQ = 4;
    private static final int DONE = 5;
    private static final int READY = 1;
    private static final int WAITS_KEY = 2;
    private static final int WAITS_ROOM = 3;
    private static final int SLEEPS = 4;
    private static final int WAITS_BLOCK = 5;
    private static final int STOPPED = 6;
    private static final int WRONG = 7;
    private static final Check CHECK = new Check("MachineBoundsTest");

    public static void main(String[] args) {
        lastWord();
        ownPage();
        indices();
        sums();
        counting();
        subroutines();
        thirteenBits();
        turns();
        skips();
        stops();
        multiplies();
        divides();
        shifts();
        wrongExtended();
        keysThere();
        keysNotThere();
        lettersOut();
        sleeps();
        whose();
        blockNumbers();
        blockPlaces();
        blocksDone();
        nothings();
        wrongCalls();
        nothingElse();
        changed();
        CHECK.finish();
    }

    /** User 0's words are in core at 256 ticks; it has done so many instructions from pc on, or one that waits. */
    private static ShareEight from(String source, int pc, int ticks) {
        ShareEight x = new ShareEight(1, 1, 64, 64);
        CHECK.due("a fault in " + source, Check.assemble(x, source) == NONE, false);
        x.mount(0);
        x.begin(0, pc);
        x.run(256);
        if (ticks > 0) {
            x.run(ticks);
        }
        return x;
    }

    private static void registers(String what, ShareEight x, int pc, int ac, int link, int mq) {
        CHECK.due("PC of " + what, x.user(0, PC), pc);
        CHECK.due("AC of " + what, x.user(0, AC), ac);
        CHECK.due("LINK of " + what, x.user(0, LINK), link);
        CHECK.due("MQ of " + what, x.user(0, MQ), mq);
    }

    /** Puts registers in order in five instructions, then does one at 0205, whose second word is at 0206. */
    private static void does(String what, int ac, int link, int mq, int pc, int toAc, int toLink, int toMq) {
        String source = "CLA;TAD (" + Integer.toOctalString(mq) + ";MQL;TAD (" + Integer.toOctalString(ac) + ";"
                + (link == 1 ? "STL;" : "CLL;") + what;
        ShareEight x = from(source, 0200, 5);
        registers("what is ahead of " + what, x, 0205, ac, link, mq);
        CHECK.due("run(1) of " + what, x.run(1), 1);
        registers(what, x, pc, toAc, toLink, toMq);
    }

    private static void lastWord() {
        CHECK.says("an INSTRUCTION is the word at PC, which is 1 more then");
        registers("IAC at 07777", from("*7777;IAC", 07777, 1), 0, 1, 0, 0);
        registers("IAC at 07777 and 0", from("*7777;IAC;*0;IAC", 07777, 2), 1, 2, 0, 0);
        registers("SKP at 07776", from("*7776;SKP", 07776, 1), 0, 0, 0, 0);
        registers("SKP at 07777", from("*7777;SKP", 07777, 1), 1, 0, 0, 0);
        registers("HLT at 07777", from("*7777;HLT", 07777, 1), 0, 0, 0, 0);
        registers("TSF at 07777", from("*7777;TSF", 07777, 1), 1, 0, 0, 0);
        registers("ISZ at 07777", from("*50;7777;*7777;ISZ 50", 07777, 1), 1, 0, 0, 0);
        registers("JMS at 07777", from("*7777;JMS 50", 07777, 1), 051, 0, 0, 0);
        registers("WHO at 07777", from("*7777;WHO", 07777, 1), 0, 0, 0, 0);
        CHECK.due("what JMS at 07777 puts", from("*50;5;*7777;JMS 50", 07777, 1).word(0, 050), 0);
        registers("MUY at 07777", from("*7777;MUY;*0;5", 07777, 1), 1, 0, 0, 0);
        registers("MUY at 07776", from("*7775;7621;MUY;5", 07775, 2), 0, 0, 0, 0);
        registers("SHL at 07777", from("*7776;IAC;SHL;*0;3", 07776, 2), 1, 020, 0, 0);
        registers("DVI at 07777", from("*7775;IAC;MQL;DVI;*0;1", 07775, 3), 1, 0, 0, 1);
        CHECK.says("PC is at the instruction, nothing else is done (it isn't counted).");
        ShareEight x = from("*7777;6001", 07777, 1);
        registers("6001 at 07777", x, 07777, 0, 0, 0);
        CHECK.user(x, 0, STATE, WRONG);
        CHECK.user(x, 0, DONE, 0);
        CHECK.look(x, 10, 0);
        registers("6001 at 0", from("*0;6001", 0, 1), 0, 0, 0, 0);
    }

    private static void ownPage() {
        CHECK.says("with 0200 those of the instruction's own page (PC's ahead) above");
        registers("TAD 0200 at 0377", from("*200;5;*377;1200;7", 0377, 1), 0400, 5, 0, 0);
        registers("TAD 0377 at 0200", from("1377;*377;5", 0200, 1), 0201, 5, 0, 0);
        registers("TAD 07600 at 07777", from("*0;7;*7600;5;*7777;1200", 07777, 1), 0, 5, 0, 0);
        registers("TAD 0 at 07777", from("*0;7;*7600;5;*7777;1000", 07777, 1), 0, 7, 0, 0);
        registers("TAD 0177 at 0", from("*0;1377;*177;5", 0, 1), 1, 5, 0, 0);
        registers("JMP 03600 at 03777", from("*3777;5200", 03777, 1), 03600, 0, 0, 0);
        registers("JMP I 03600 at 03777", from("*3600;1234;*3777;5600", 03777, 1), 01234, 0, 0, 0);
    }

    private static void indices() {
        CHECK.says("of 010 to 017 (that address) the word is 1 more first.");
        for (int address = 0; address < 0200; address++) {
            int index = address >= 010 && address <= 017 ? 0301 : 0300;
            String at = Integer.toOctalString(address);
            ShareEight x = from("*" + at + ";300;*200;TAD I " + at + ";*300;5;6", 0200, 1);
            CHECK.user(x, 0, AC, index == 0301 ? 6 : 5);
            CHECK.due("word " + at, x.word(0, address), index);
        }
        for (int address = 0210; address < 0220; address++) {
            ShareEight x = from("*200;1600+" + Integer.toOctalString(address & 0177) + ";*"
                    + Integer.toOctalString(address) + ";300;*300;5;6", 0200, 1);
            CHECK.user(x, 0, AC, 5);
            CHECK.due("no index " + address, x.word(0, address), 0300);
        }
        ShareEight x = from("*10;7777;*0;TAD I 10;*1;NOP", 0, 1);
        CHECK.due("07777 goes round", x.word(0, 010), 0);
        CHECK.user(x, 0, AC, 01410);
        x = from("*17;7776;*7777;1234;*20;1617", 020, 1);
        CHECK.due("up to 07777, the page's own bit set", x.word(0, 017), 07777);
        CHECK.user(x, 0, AC, 01234);
        CHECK.due("JMP I 10", from("JMP I 10;*10;7777", 0200, 1).user(0, PC), 0);
        x = from("JMS I 10;*10;7776", 0200, 1);
        CHECK.user(x, 0, PC, 0);
        CHECK.due("JMS I 10", x.word(0, 07777), 0201);
        x = from("IAC;DCA I 17;*17;16", 0200, 2);
        CHECK.due("DCA I 17 at 017 itself", x.word(0, 017), 1);
        x = from("ISZ I 11;*11;10;*200;ISZ I 11", 0200, 1);
        CHECK.due("ISZ I 11 at 011 itself", x.word(0, 011), 012);
    }

    private static void sums() {
        CHECK.says("1 AC and it together; LINK becomes the other one if that is beyond a word.");
        does("TAD (7777", 0, 0, 0, 0206, 07777, 0, 0);
        does("TAD (7777", 0, 1, 0, 0206, 07777, 1, 0);
        does("TAD (7777", 1, 0, 0, 0206, 0, 1, 0);
        does("TAD (7777", 1, 1, 0, 0206, 0, 0, 0);
        does("TAD (7777", 07777, 0, 0, 0206, 07776, 1, 0);
        does("TAD (0", 07777, 0, 0, 0206, 07777, 0, 0);
        does("TAD (4000", 04000, 1, 5, 0206, 0, 0, 5);
        does("TAD (3777", 04000, 1, 5, 0206, 07777, 1, 5);
        does("AND (0", 07777, 1, 5, 0206, 0, 1, 5);
        does("AND (7777", 07777, 1, 5, 0206, 07777, 1, 5);
    }

    private static void counting() {
        CHECK.says("2 it is 1 more; 0: PC is 1 more.");
        ShareEight x = from("ISZ 50;*50;7776", 0200, 1);
        CHECK.due("07776", x.word(0, 050), 07777);
        registers("07776", x, 0201, 0, 0, 0);
        x = from("ISZ 50;*50;7777", 0200, 1);
        CHECK.due("07777", x.word(0, 050), 0);
        registers("07777", x, 0202, 0, 0, 0);
        x = from("ISZ 50;*50;0", 0200, 1);
        CHECK.due("0", x.word(0, 050), 1);
        registers("0", x, 0201, 0, 0, 0);
    }

    private static void subroutines() {
        CHECK.says("4 PC goes there; PC is the address and 1.");
        ShareEight x = from("*7700;JMS 7777", 07700, 1);
        CHECK.due("07777", x.word(0, 07777), 07701);
        CHECK.user(x, 0, PC, 0);
        x = from("JMS 0", 0200, 1);
        CHECK.due("0", x.word(0, 0), 0201);
        CHECK.user(x, 0, PC, 1);
        x = from("*7777;JMS 7777", 07777, 1);
        CHECK.due("itself", x.word(0, 07777), 0);
        CHECK.user(x, 0, PC, 0);
    }

    private static void thirteenBits() {
        CHECK.says("1 AC and LINK (as 13 bits) 1 more");
        does("IAC", 07776, 0, 0, 0206, 07777, 0, 0);
        does("IAC", 07777, 0, 0, 0206, 0, 1, 0);
        does("IAC", 07777, 1, 0, 0206, 0, 0, 0);
        does("IAC", 0, 1, 0, 0206, 1, 1, 0);
        does("CIA", 0, 0, 0, 0206, 0, 1, 0);
        does("CIA", 0, 1, 0, 0206, 0, 0, 0);
        does("CLL CMA IAC", 0, 1, 0, 0206, 0, 1, 0);
        does("CMA CML IAC", 0, 1, 0, 0206, 0, 1, 0);
        CHECK.says("in this order");
        does("7361", 05252, 0, 0, 0206, 0, 0, 0);
        does("7340", 05252, 1, 0, 0206, 07777, 0, 0);
        does("7327", 05252, 1, 0, 0206, 6, 0, 0);
        does("7313", 05252, 1, 0, 0206, 04000, 0, 0);
        does("7203", 05252, 1, 0, 0206, 0100, 1, 0);
    }

    private static void turns() {
        CHECK.says("then 010 and 4 alone of both: AC and LINK a turn to the right, to the left (with 2: two)");
        does("RAR", 0, 1, 0, 0206, 04000, 0, 0);
        does("RAR", 1, 0, 0, 0206, 0, 1, 0);
        does("RAL", 0, 1, 0, 0206, 1, 0, 0);
        does("RAL", 04000, 0, 0, 0206, 0, 1, 0);
        does("RTR", 0, 1, 0, 0206, 02000, 0, 0);
        does("RTR", 1, 0, 0, 0206, 04000, 0, 0);
        does("RTR", 2, 0, 0, 0206, 0, 1, 0);
        does("RTL", 0, 1, 0, 0206, 2, 0, 0);
        does("RTL", 04000, 0, 0, 0206, 1, 0, 0);
        does("RTL", 02000, 0, 0, 0206, 0, 1, 0);
        does("RAR", 07777, 1, 0, 0206, 07777, 1, 0);
        CHECK.says("2 without both: AC's halves change places. (010 and 4: nothing.)");
        does("BSW", 077, 1, 0, 0206, 07700, 1, 0);
        does("BSW", 07700, 0, 0, 0206, 077, 0, 0);
        does("7014", 01234, 1, 0, 0206, 01234, 1, 0);
        does("7016", 01234, 1, 0, 0206, 01234, 1, 0);
        does("7215", 01234, 1, 0, 0206, 1, 1, 0);
    }

    private static void skip(int code, int ac, int link, boolean skips) {
        does(Integer.toOctalString(code), ac, link, 0, skips ? 0207 : 0206, ac, link, 0);
    }

    private static void skips() {
        CHECK.says("PC is 1 more if one of these that are in it is so; with 010 if none of them is.");
        int[] all = {0, 1, 03777, 04000, 07777};
        for (int bits = 0; bits < 8; bits++) {
            for (int ac : all) {
                for (int link = 0; link < 2; link++) {
                    boolean one = (bits & 4) != 0 && ac >= 04000 || (bits & 2) != 0 && ac == 0 || (bits & 1) != 0 && link == 1;
                    skip(07400 | bits << 4, ac, link, one);
                    skip(07410 | bits << 4, ac, link, !one);
                }
            }
        }
    }

    private static void stops() {
        CHECK.says("Then 0200 AC 0; 4 AC or SWITCHES; 2 STOPPED.");
        ShareEight x = from("CMA;7640;HLT", 0200, 0);
        x.set(0, 07777);
        x.run(2);
        registers("SZA CLA looks at AC first", x, 0202, 0, 0, 0);
        x = from("IAC;OSR;7604;7606", 0200, 0);
        CHECK.due("set", x.set(0, 07776), true);
        x.run(2);
        registers("OSR", x, 0202, 07777, 0, 0);
        CHECK.user(x, 0, STATE, READY);
        x.run(1);
        registers("0200 first", x, 0203, 07776, 0, 0);
        x.set(0, 0);
        CHECK.due("one that stops is done", x.run(1), 1);
        registers("7606", x, 0204, 0, 0, 0);
        CHECK.user(x, 0, STATE, STOPPED);
        x = from("CMA;OSR", 0200, 0);
        x.set(0, 05252);
        x.run(2);
        registers("OSR of bits that are there", x, 0202, 07777, 0, 0);
        x = from("7412", 0200, 1);
        registers("SKP and HLT", x, 0202, 0, 0, 0);
        CHECK.user(x, 0, STATE, STOPPED);
    }

    private static void multiplies() {
        CHECK.says("times MQ and AC: AC the upper, MQ the lower word, LINK 0.");
        does("MUY;7777", 07777, 1, 07777, 0207, 07777, 0, 0);
        does("MUY;7777", 0, 1, 07777, 0207, 07776, 0, 1);
        does("MUY;0", 07777, 1, 07777, 0207, 0, 0, 07777);
        does("MUY;7777", 1, 1, 0, 0207, 0, 0, 1);
        does("MUY;1", 1, 1, 07777, 0207, 1, 0, 0);
        does("MUY;2", 0, 0, 04000, 0207, 1, 0, 0);
        does("MUY;1", 07777, 0, 07777, 0207, 1, 0, 07776);
    }

    private static void divides() {
        CHECK.says("if AC isn't below it: LINK 1, nothing else; else AC, MQ (24 bits) by it: MQ the quotient, AC the rest, LINK 0.");
        does("DVI;0", 0, 0, 5, 0207, 0, 1, 5);
        does("DVI;0", 07777, 0, 5, 0207, 07777, 1, 5);
        does("DVI;5", 5, 0, 7, 0207, 5, 1, 7);
        does("DVI;5", 6, 0, 7, 0207, 6, 1, 7);
        does("DVI;5", 4, 1, 07777, 0207, 4, 0, 07777);
        does("DVI;7777", 07777, 1, 0, 0207, 07777, 1, 0);
        does("DVI;7777", 07776, 1, 07777, 0207, 07776, 0, 07777);
        does("DVI;1", 0, 1, 07777, 0207, 0, 0, 07777);
        does("DVI;1", 1, 1, 07777, 0207, 1, 1, 07777);
        does("DVI;7777", 0, 1, 07777, 0207, 0, 0, 1);
        does("DVI;7777", 0, 1, 07776, 0207, 07776, 0, 0);
        does("DVI;2", 1, 1, 1, 0207, 1, 0, 04000);
    }

    private static void shifts() {
        CHECK.says("the lowest five bits of the word behind, and 1, turns of AC, MQ (24 bits)");
        does("LSR;0", 0, 1, 4, 0207, 0, 0, 2);
        does("LSR;7740", 0, 1, 4, 0207, 0, 0, 2);
        does("LSR;7741", 0, 1, 4, 0207, 0, 0, 1);
        does("LSR;26", 07777, 1, 07777, 0207, 0, 0, 1);
        does("LSR;27", 07777, 1, 07777, 0207, 0, 0, 0);
        does("LSR;37", 07777, 1, 07777, 0207, 0, 0, 0);
        CHECK.says("to the left (what goes out of AC is LINK, 0 comes in)");
        does("SHL;0", 04000, 0, 04000, 0207, 1, 1, 0);
        does("SHL;0", 03777, 1, 07777, 0207, 07777, 0, 07776);
        does("SHL;13", 0, 1, 07777, 0207, 07777, 0, 0);
        does("SHL;13", 1, 0, 07777, 0207, 07777, 1, 0);
        does("SHL;27", 0, 0, 1, 0207, 0, 1, 0);
        does("SHL;27", 07777, 1, 07776, 0207, 0, 0, 0);
        does("SHL;30", 07777, 1, 07777, 0207, 0, 0, 0);
        does("SHL;37", 07777, 1, 07777, 0207, 0, 0, 0);
        does("SHL;7740", 0, 1, 1, 0207, 0, 0, 2);
        CHECK.says("to the right with AC's highest bit (LINK becomes that), with 0 (LINK 0).");
        does("ASR;0", 04000, 0, 1, 0207, 06000, 1, 0);
        does("ASR;0", 03777, 1, 1, 0207, 01777, 0, 04000);
        does("ASR;26", 04000, 0, 0, 0207, 07777, 1, 07777);
        does("ASR;37", 04000, 0, 0, 0207, 07777, 1, 07777);
        does("ASR;37", 03777, 1, 07777, 0207, 0, 0, 0);
        does("ASR;7740", 0, 1, 2, 0207, 0, 0, 1);
        does("LSR;0", 04001, 1, 0, 0207, 02000, 0, 04000);
    }

    private static void wrongExtended() {
        CHECK.says("2, 010: WRONG.");
        for (int code = 07401; code <= 07777; code += 2) {
            boolean wrong = (code & 016) == 2 || (code & 016) == 010;
            ShareEight x = from(Integer.toOctalString(code), 0200, 1);
            CHECK.due("state of " + Integer.toOctalString(code), x.user(0, STATE), wrong ? WRONG : READY);
            CHECK.due("PC of " + Integer.toOctalString(code), x.user(0, PC), wrong ? 0200 : (code & 016) == 0 ? 0201 : 0202);
            CHECK.due("count of " + Integer.toOctalString(code), x.user(0, DONE), wrong ? 0 : 1);
        }
    }

    private static void keysThere() {
        CHECK.says("06032 AC 0, the first key, if there is one, goes.");
        ShareEight x = from("*7776;CMA;KCC", 07776, 0);
        x.key(0, 5);
        x.key(0, 6);
        CHECK.due("run", x.run(2), 2);
        registers("KCC", x, 0, 0, 0, 0);
        CHECK.user(x, 0, 6, 1);
        x = from("CMA;KCC", 0200, 0);
        CHECK.due("run", x.run(2), 2);
        registers("KCC without one", x, 0202, 0, 0, 0);
        CHECK.user(x, 0, 6, 0);
        CHECK.user(x, 0, STATE, READY);
        CHECK.says("06031 PC is 1 more if there is a key.");
        CHECK.due("without", from("KSF", 0200, 1).user(0, PC), 0201);
        x = from("*7777;KSF", 07777, 0);
        x.key(0, 0);
        x.run(1);
        CHECK.user(x, 0, PC, 1);
        CHECK.user(x, 0, 6, 1);
    }

    private static void keysNotThere() {
        CHECK.says("06034 AC or the first key and 0200; it waits without. 06036 AC is the first key and 0200, which goes; it waits without.");
        int[] codes = {0, 1, 0177};
        for (int code : codes) {
            ShareEight x = from("TAD (5001;KRS;KRB", 0200, 0);
            x.key(0, code);
            CHECK.due("KRS", x.run(2), 2);
            registers("KRS", x, 0202, 05201 | code, 0, 0);
            CHECK.user(x, 0, 6, 1);
            CHECK.due("KRB", x.run(1), 1);
            registers("KRB", x, 0203, 0200 | code, 0, 0);
            CHECK.user(x, 0, 6, 0);
        }
        CHECK.says("One that waits for a KEY or room isn't done either: PC stays, and it comes again when it is READY.");
        String[] waiting = {"KRS", "KRB"};
        for (String what : waiting) {
            ShareEight x = from("*7776;CMA;" + what, 07776, 1);
            CHECK.due(what, x.run(1), 0);
            registers(what, x, 07777, 07777, 0, 0);
            CHECK.user(x, 0, STATE, WAITS_KEY);
            CHECK.user(x, 0, DONE, 1);
            CHECK.due("it waits on", x.run(100), 0);
            x.key(0, 0101);
            CHECK.user(x, 0, STATE, READY);
            CHECK.user(x, 0, PC, 07777);
            CHECK.due("it comes again", x.run(1), 1);
            registers(what, x, 0, what.equals("KRS") ? 07777 : 0301, 0, 0);
        }
        ShareEight x = from("*7776;CMA;TLS;*0;JMP 7777", 07776, 1);
        CHECK.due("TLS till OUT is full", x.run(40), 34);
        registers("TLS", x, 07777, 07777, 0, 0);
        CHECK.user(x, 0, STATE, WAITS_ROOM);
    }

    private static void lettersOut() {
        CHECK.says("06044, 06046 AC's lowest seven bits go to OUT; it waits, if that has 16.");
        String[] both = {"6044", "6046"};
        for (String what : both) {
            ShareEight x = from("TAD (7641;" + what + ";JMP .-1", 0200, 2);
            CHECK.user(x, 0, 7, 1);
            x.run(31);
            CHECK.due("printed", x.user(0, 8), 1);
            CHECK.user(x, 0, 7, 15);
            CHECK.due("one more", x.run(2), 2);
            CHECK.user(x, 0, 7, 16);
            CHECK.user(x, 0, STATE, READY);
            CHECK.due("no room", x.run(1), 0);
            CHECK.user(x, 0, STATE, WAITS_ROOM);
            CHECK.user(x, 0, 7, 16);
            CHECK.user(x, 0, PC, 0201);
            CHECK.due("seven bits", x.paper(0, 0), 041);
            CHECK.user(x, 0, AC, 07641);
        }
    }

    private static void sleeps() {
        CHECK.says("06420 SLEEPS till 16 AC ticks later, AC 0 (of AC 0 only that it becomes 0: it does not sleep).");
        ShareEight x = from("SLEEP;IAC;SLEEP", 0200, 0);
        CHECK.due("of AC 0", x.run(1), 1);
        registers("SLEEP of 0", x, 0201, 0, 0, 0);
        CHECK.user(x, 0, STATE, READY);
        CHECK.user(x, 0, 13, NONE);
        CHECK.due("of AC 1", x.run(2), 2);
        registers("SLEEP of 1", x, 0203, 0, 0, 0);
        CHECK.user(x, 0, STATE, SLEEPS);
        CHECK.user(x, 0, 13, 259 + 16);
        x = from("*7776;CMA;SLEEP", 07776, 2);
        registers("SLEEP of 4095 at 07777", x, 0, 0, 0, 0);
        CHECK.user(x, 0, 13, 258 + 16 * 4095);
        CHECK.due("asleep", x.run(20000) + x.run(20000) + x.run(20000), 0);
        x.run(5519);
        CHECK.user(x, 0, STATE, SLEEPS);
        CHECK.due("awake", x.run(1), 1);
        CHECK.look(x, 0, 258 + 16 * 4095);
    }

    private static void whose() {
        CHECK.says("06417 AC is its number.");
        ShareEight x = new ShareEight(6, 4, 64, 1);
        CHECK.start(x, 0, "CMA;WHO;HLT");
        CHECK.start(x, 5, "CMA;WHO;HLT");
        x.run(600);
        CHECK.user(x, 0, AC, 0);
        CHECK.user(x, 5, AC, 5);
    }

    private static void blockNumbers() {
        CHECK.says("06440, 06441 BLOCK AC (lowest three bits)");
        for (int number = 0; number < 16; number++) {
            String ac = Integer.toOctalString(number < 8 ? number : number | 07770);
            ShareEight x = from("TAD (200;MQL;TAD (" + ac + ";WRB;HLT", 0200, 20);
            CHECK.user(x, 0, STATE, STOPPED);
            for (int b = 0; b < 8; b++) {
                CHECK.due("block " + b + " of " + ac, x.block(0, b, 0), b == (number & 7) ? 01377 : 0);
                CHECK.due("its last word", x.block(0, b, 127), b == (number & 7) ? 0200 : 0);
            }
        }
    }

    private static void blockPlaces() {
        CHECK.says("its words come to the words from MQ on (going round), or from there");
        int[] places = {0, 07577, 07600, 07601, 07700, 07777};
        for (int place : places) {
            String to = Integer.toOctalString(place);
            String last = Integer.toOctalString(place + 127 & 07777);
            String beyond = Integer.toOctalString(place + 128 & 07777);
            ShareEight x = from("*400;TAD (" + to + ";MQL;WRB;TAD (1000;MQL;RDB;HLT;*" + to + ";1;*" + last + ";2;*" + beyond + ";3", 0400, 40);
            CHECK.user(x, 0, STATE, STOPPED);
            CHECK.due("first of " + to, x.block(0, 0, 0), 1);
            CHECK.due("last of " + to, x.block(0, 0, 127), 2);
            CHECK.due("read first", x.word(0, 01000), 1);
            CHECK.due("read last", x.word(0, 01177), 2);
            CHECK.due("none beyond", x.word(0, 01200), 0);
            x = from("*400;TAD (1000;MQL;WRB;TAD (" + to + ";MQL;RDB;HLT;*1000;1;*1177;2;*" + beyond + ";3", 0400, 40);
            CHECK.due("read at " + to, x.word(0, place), 1);
            CHECK.due("read up to " + last, x.word(0, place + 127 & 07777), 2);
            CHECK.due("none beyond", x.word(0, place + 128 & 07777), 3);
        }
    }

    private static void blocksDone() {
        CHECK.says("(A BLOCK's is done when the TASK is; PC is behind it at once.)");
        ShareEight x = from("*7776;CMA;WRB", 07776, 1);
        CHECK.due("WRB", x.run(1), 0);
        registers("WRB at 07777", x, 0, 07777, 0, 0);
        CHECK.user(x, 0, STATE, WAITS_BLOCK);
        CHECK.user(x, 0, DONE, 1);
        CHECK.due("the task begins and goes on", x.run(8), 0);
        registers("AC while it waits", x, 0, 07777, 0, 0);
        CHECK.user(x, 0, DONE, 1);
        CHECK.look(x, 4, 112);
        CHECK.due("done, and AND 0 at 0", x.run(1), 2);
        registers("AC when it is done", x, 1, 0, 0, 0);
        CHECK.user(x, 0, DONE, 3);
        CHECK.look(x, 10, 3);
    }

    private static void nothings() {
        CHECK.says("06201, 06202, 06203, 06214, 06224, 06234 nothing.");
        String[] all = {"6201", "6202", "6203", "6214", "6224", "6234", "6042"};
        for (String what : all) {
            does(what, 05252, 1, 02525, 0206, 05252, 1, 02525);
        }
    }

    private static void wrongCalls() {
        CHECK.says("Others: WRONG.");
        int[] fine = {06031, 06032, 06034, 06036, 06041, 06042, 06044, 06046, 06420, 06417, 06201, 06202, 06203, 06214, 06224, 06234};
        for (int code = 06000; code <= 06777; code++) {
            int want = code == 06440 || code == 06441 ? WAITS_BLOCK : WRONG;
            for (int one : fine) {
                want = one == code ? READY : want;
            }
            ShareEight x = from(Integer.toOctalString(code), 0200, 0);
            x.key(0, 5);
            CHECK.due("done of " + Integer.toOctalString(code), x.run(1), want == READY ? 1 : 0);
            CHECK.due("state of " + Integer.toOctalString(code), x.user(0, STATE), want);
            CHECK.due("PC of " + Integer.toOctalString(code), x.user(0, PC) == 0200, want == WRONG);
        }
    }

    private static void nothingElse() {
        CHECK.says("WRONG: the STATE is that, PC is at the instruction, nothing else is done (it isn't counted).");
        String[] all = {"7603", "7763", "7711", "7731", "6777", "6000", "6037"};
        for (String what : all) {
            ShareEight x = from("CLA;TAD (1234;MQL;TAD (4321;STL;" + what, 0200, 5);
            x.key(0, 5);
            CHECK.due("done of " + what, x.run(10), 0);
            registers(what, x, 0205, 04321, 1, 01234);
            CHECK.user(x, 0, STATE, WRONG);
            CHECK.user(x, 0, DONE, 5);
            CHECK.user(x, 0, 6, 1);
            CHECK.due("CHANGED", x.slot(0, 1), 0);
            CHECK.look(x, 10, 5);
        }
    }

    private static void changed() {
        CHECK.says("A word of the core that is put makes its slot CHANGED (a BLOCK's, too).");
        String[] putting = {"DCA 50", "ISZ 50", "JMS 50", "TAD I 10", "AND I 17", "JMP I 10", "RDB"};
        for (String what : putting) {
            CHECK.due("CHANGED by " + what, from(what + ";HLT;HLT", 0200, 20).slot(0, 1), 1);
        }
        String[] others = {"TAD 50", "AND 50", "JMP 201", "TAD I 7", "TAD I 20", "JMP I 50", "WRB", "MUY;5", "TLS", "WHO"};
        for (String what : others) {
            CHECK.due("CHANGED by " + what, from(what + ";HLT;*0;HLT", 0200, 20).slot(0, 1), 0);
        }
        ShareEight x = from("RDB;HLT", 0200, 2);
        CHECK.look(x, 2, 3);
        CHECK.due("not when the task begins", x.slot(0, 1), 0);
        x.run(1);
        CHECK.due("but with its first words", x.slot(0, 1), 1);
    }
}
