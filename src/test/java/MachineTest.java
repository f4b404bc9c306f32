/** Promise 13, and 14 as far as it tells of registers: what one user's instructions do. */
public final class MachineTest {
    private static final int NONE = ShareEight.NONE;
    private static final int STATE = 0;
    private static final int PC = 1;
    private static final int AC = 2;
    private static final int LINK = 3;
    private static final int MQ = 4;
    private static final int DONE = 5;
    private static final Check CHECK = new Check("MachineTest");

    public static void main(String[] args) {
        references();
        indirectly();
        operates();
        turns();
        skips();
        multiplierWords();
        multiplies();
        divides();
        shifts();
        keys();
        counts();
        printing();
        sleeping();
        nothings();
        wrong();
        blocks();
        CHECK.finish();
    }

    /** Runs a source till it stops, with AC, LINK and MQ as the source makes them. */
    private static void stops(String source, int ac, int link, int mq, int pc) {
        ShareEight x = CHECK.alone(source);
        x.run(200);
        CHECK.due("state of " + source, x.user(0, STATE), 6);
        CHECK.due("AC of " + source, x.user(0, AC), ac);
        CHECK.due("LINK of " + source, x.user(0, LINK), link);
        CHECK.due("MQ of " + source, x.user(0, MQ), mq);
        CHECK.due("PC of " + source, x.user(0, PC), pc);
    }

    private static String load(int ac, int link, int mq) {
        return "CLA;TAD (" + Integer.toOctalString(mq) + ";MQL;TAD (" + Integer.toOctalString(ac) + ";"
                + (link == 1 ? "STL" : "CLL") + ";";
    }

    /** One instruction behind 5 that load registers; a HLT behind it. */
    private static void does(String what, int ac, int link, int mq, int toAc, int toLink, int toMq) {
        stops(load(ac, link, mq) + what + ";HLT;HLT", toAc, toLink, toMq, what.contains(";") ? 0210 : 0207);
    }

    private static void references() {
        does("AND (1750", 07070, 1, 0, 01050, 1, 0);
        does("TAD (1", 07776, 1, 5, 07777, 1, 5);
        does("TAD (2", 07776, 1, 0, 0, 0, 0);
        does("TAD (2", 07776, 0, 0, 0, 1, 0);
        does("TAD (7777", 07777, 0, 0, 07776, 1, 0);
        ShareEight x = CHECK.alone("NOP;ISZ A;ISZ B;HLT;NOP;HLT;A,7776;B,7777");
        CHECK.due("ISZ to 07777", x.run(1), 1);
        CHECK.user(x, 0, PC, 0202);
        CHECK.due("the word", x.word(0, 0206), 07777);
        x.run(1);
        CHECK.user(x, 0, PC, 0204);
        CHECK.due("the word", x.word(0, 0207), 0);
        x = CHECK.alone("CLA CMA;DCA 50;JMS SUB;HLT;SUB,0;JMP I SUB");
        x.run(1);
        CHECK.user(x, 0, AC, 0);
        CHECK.due("DCA", x.word(0, 050), 07777);
        CHECK.due("the slot is CHANGED", x.slot(0, 1), 1);
        x.run(1);
        CHECK.user(x, 0, PC, 0205);
        CHECK.due("JMS", x.word(0, 0204), 0203);
        x.run(1);
        CHECK.user(x, 0, PC, 0203);
        x = CHECK.alone("JMP 7777;*7777;JMS 7777&7777");
        x.run(1);
        CHECK.due("JMS to the last word, PC round", x.word(0, 07777), 0);
        CHECK.user(x, 0, PC, 0);
    }

    private static void indirectly() {
        ShareEight x = CHECK.alone("TAD I 10;TAD I 10;DCA I 17;DCA I 20;HLT;*10;377;*17;7777;*20;50;*400;5;6");
        CHECK.user(x, 0, AC, 5);
        CHECK.due("the index", x.word(0, 010), 0400);
        x.run(1);
        CHECK.user(x, 0, AC, 013);
        CHECK.due("the index", x.word(0, 010), 0401);
        x.run(1);
        CHECK.due("round", x.word(0, 017), 0);
        CHECK.due("put at 0", x.word(0, 0), 013);
        x.run(1);
        CHECK.due("020 is no index", x.word(0, 020), 050);
        x = CHECK.alone("NOP;JMP I 10;*10;300");
        x.run(1);
        CHECK.user(x, 0, PC, 0301);
        x = CHECK.alone("NOP;TAD I .+1;210;HLT;*210;4321");
        x.run(1);
        CHECK.user(x, 0, AC, 04321);
        // In page 0 the address 010 of the own page is an index, too.
        x = CHECK.alone("JMP 1;*1;1610;*10;377;*400;7");
        x.run(1);
        CHECK.user(x, 0, AC, 7);
        CHECK.due("own page's index", x.word(0, 010), 0400);
    }

    private static void operates() {
        does("CLA", 5, 1, 6, 0, 1, 6);
        does("CLL", 5, 1, 6, 5, 0, 6);
        does("CMA", 05252, 1, 6, 02525, 1, 6);
        does("CML", 5, 1, 6, 5, 0, 6);
        does("IAC", 07777, 0, 0, 0, 1, 0);
        does("IAC", 07777, 1, 0, 0, 0, 0);
        does("IAC", 5, 1, 0, 6, 1, 0);
        does("CIA", 5, 0, 0, 07773, 0, 0);
        does("CLA CLL CMA CML IAC", 5, 1, 0, 0, 0, 0);
        does("7361", 5, 1, 0, 0, 0, 0);
        does("7325", 5, 0, 0, 3, 0, 0);
        does("NOP", 5, 1, 6, 5, 1, 6);
    }

    private static void turns() {
        does("RAR", 1, 0, 0, 0, 1, 0);
        does("RAR", 2, 1, 0, 04001, 0, 0);
        does("RTR", 3, 0, 0, 04000, 1, 0);
        does("RTR", 1, 1, 0, 06000, 0, 0);
        does("RAL", 04000, 0, 0, 0, 1, 0);
        does("RAL", 1, 1, 0, 3, 0, 0);
        does("RTL", 06000, 0, 0, 1, 1, 0);
        does("RTL", 1, 1, 0, 6, 0, 0);
        does("BSW", 01234, 1, 0, 03412, 1, 0);
        does("7014", 01234, 1, 0, 01234, 1, 0);
        does("7016", 01234, 1, 0, 01234, 1, 0);
    }

    private static void skip(String what, int ac, int link, boolean skips) {
        stops(load(ac, link, 0) + what + ";HLT;HLT", ac, link, 0, skips ? 0210 : 0207);
    }

    private static void skips() {
        skip("SMA", 04000, 0, true);
        skip("SMA", 03777, 0, false);
        skip("SZA", 0, 0, true);
        skip("SZA", 1, 0, false);
        skip("SNL", 1, 1, true);
        skip("SNL", 1, 0, false);
        skip("SPA", 03777, 0, true);
        skip("SPA", 04000, 0, false);
        skip("SNA", 1, 0, true);
        skip("SNA", 0, 0, false);
        skip("SZL", 0, 0, true);
        skip("SZL", 0, 1, false);
        skip("SKP", 0, 1, true);
        skip("7400", 0, 1, false);
        skip("SMA SZA SNL", 1, 1, true);
        skip("SMA SZA SNL", 1, 0, false);
        skip("SPA SNA SZL", 1, 0, true);
        skip("SPA SNA SZL", 1, 1, false);
        stops(load(0, 0, 0) + "SZA CLA;HLT;HLT", 0, 0, 0, 0210);
        stops(load(5, 0, 0) + "SZA CLA;HLT;HLT", 0, 0, 0, 0207);
        ShareEight x = CHECK.alone("CLA;SKP;HLT;7600;HLT");
        x.set(0, 07777);
        x.run(3);
        CHECK.user(x, 0, AC, 0);
        CHECK.user(x, 0, STATE, 6);
        x = CHECK.alone("CLA IAC;OSR;7606;HLT");
        CHECK.due("set", x.set(0, 05070), true);
        x.run(1);
        CHECK.user(x, 0, AC, 05071);
        x.run(1);
        CHECK.user(x, 0, AC, 05070);
        CHECK.user(x, 0, STATE, 6);
        CHECK.user(x, 0, DONE, 3);
    }

    private static void multiplierWords() {
        does("MQL", 5, 1, 6, 0, 1, 5);
        does("MQA", 5, 1, 6, 7, 1, 6);
        does("SWP", 5, 1, 6, 6, 1, 5);
        does("7701", 5, 1, 6, 6, 1, 6);
        does("7621", 5, 1, 6, 0, 1, 0);
        does("7721", 5, 1, 6, 6, 1, 0);
        does("7401", 5, 1, 6, 5, 1, 6);
        does("7601", 5, 1, 6, 0, 1, 6);
        does("7441", 5, 1, 6, 5, 1, 6);
    }

    private static void multiplies() {
        does("MUY;3", 5, 1, 6, 0, 0, 027);
        does("MUY;7777", 07777, 1, 07777, 07777, 0, 0);
        does("MUY;0", 07777, 1, 07777, 0, 0, 07777);
        does("7425;3", 6, 1, 0, 0, 0, 022);
    }

    private static void divides() {
        does("DVI;3", 0, 1, 7, 1, 0, 2);
        does("DVI;7777", 07776, 1, 07777, 07776, 0, 07777);
        does("DVI;5", 5, 0, 7, 5, 1, 7);
        does("DVI;0", 0, 0, 7, 0, 1, 7);
        does("7627;3", 7, 0, 0, 0, 0, 0);
    }

    private static void shifts() {
        does("SHL;0", 04001, 0, 04000, 3, 1, 0);
        does("SHL;1", 04001, 1, 04000, 6, 0, 0);
        does("SHL;37", 07777, 1, 07777, 0, 0, 0);
        does("SHL;27", 0, 0, 1, 0, 1, 0);
        does("ASR;0", 04001, 0, 1, 06000, 1, 04000);
        does("ASR;37", 04000, 0, 0, 07777, 1, 07777);
        does("ASR;1", 03777, 1, 0, 0777, 0, 06000);
        does("LSR;0", 04001, 1, 1, 02000, 0, 04000);
        does("LSR;37", 07777, 1, 07777, 0, 0, 0);
        does("LSR;47", 0, 0, 0400, 0, 0, 1);
        does("LSR;7740", 0, 1, 1, 0, 0, 0);
    }

    private static void keys() {
        ShareEight x = CHECK.alone("CLA IAC;KSF;KRS;KSF;HLT;KRS;KCC;KRB;KSF;KRB");
        x.run(1);
        CHECK.user(x, 0, PC, 0202);
        CHECK.due("one that waits isn't done", x.run(1), 0);
        CHECK.user(x, 0, STATE, 2);
        CHECK.user(x, 0, PC, 0202);
        CHECK.user(x, 0, DONE, 2);
        CHECK.due("it waits on", x.run(10), 0);
        CHECK.due("a key", x.key(0, 0104), true);
        CHECK.user(x, 0, STATE, 1);
        CHECK.due("the key again", x.key(0, 0102), true);
        CHECK.due("KRS comes again", x.run(1), 1);
        CHECK.user(x, 0, AC, 0305);
        CHECK.user(x, 0, 6, 2);
        x.run(1);
        CHECK.user(x, 0, PC, 0205);
        x.run(1);
        CHECK.user(x, 0, AC, 0305);
        x.run(1);
        CHECK.user(x, 0, AC, 0);
        CHECK.user(x, 0, 6, 1);
        x.run(1);
        CHECK.user(x, 0, AC, 0302);
        CHECK.user(x, 0, 6, 0);
        x.run(2);
        CHECK.user(x, 0, STATE, 2);
        CHECK.user(x, 0, PC, 0211);
        x = CHECK.alone("CLA IAC;KCC;HLT");
        x.run(1);
        CHECK.user(x, 0, AC, 0);
        CHECK.user(x, 0, DONE, 2);
    }

    private static void counts() {
        String all = "6031;6032;6041;NOP;6042;6044;6046;6201;6417;KRS;KRB";
        ShareEight x = new ShareEight(1, 1, 64, 1);
        x.key(0, 1);
        x.key(0, 2);
        x.key(0, 3);
        CHECK.start(x, 0, all + ";HLT");
        x.run(300);
        CHECK.user(x, 0, STATE, 6);
        // Two of the twelve are skipped, all others are done.
        CHECK.user(x, 0, DONE, 10);
    }

    private static void printing() {
        ShareEight x = new ShareEight(1, 1, 64, 64);
        CHECK.start(x, 0, "TAD (7501;TSF;HLT;TLS;6044;JMP .-2");
        x.run(258);
        CHECK.user(x, 0, PC, 0203);
        CHECK.user(x, 0, 7, 0);
        x.run(1);
        CHECK.user(x, 0, 7, 1);
        CHECK.due("at once, the tick behind", x.run(1), 1);
        CHECK.user(x, 0, 7, 1);
        CHECK.user(x, 0, 8, 1);
        CHECK.due("seven bits", x.paper(0, 0), 0101);
        x.run(23);
        CHECK.user(x, 0, 7, 16);
        CHECK.due("full", x.run(1), 0);
        CHECK.user(x, 0, STATE, 3);
        int printsAt = 260 + 64;
        x.run(printsAt - 1 - x.look(0));
        CHECK.user(x, 0, STATE, 3);
        CHECK.due("room: it comes again", x.run(1), 1);
        CHECK.user(x, 0, 7, 16);
        CHECK.user(x, 0, 8, 2);
        CHECK.user(x, 0, STATE, 1);
    }

    private static void sleeping() {
        ShareEight x = CHECK.alone("CLA IAC;SLEEP;SLEEP;HLT");
        CHECK.due("SLEEP is done", x.run(1), 1);
        CHECK.user(x, 0, STATE, 4);
        CHECK.user(x, 0, AC, 0);
        CHECK.user(x, 0, PC, 0202);
        CHECK.user(x, 0, 13, 258 + 16);
        CHECK.due("it sleeps", x.run(15), 0);
        CHECK.user(x, 0, STATE, 4);
        CHECK.due("its time has come", x.run(1), 1);
        CHECK.user(x, 0, STATE, 1);
        CHECK.user(x, 0, 13, NONE);
        CHECK.user(x, 0, PC, 0203);
        x = CHECK.alone("CLA CMA;SLEEP");
        x.run(1);
        CHECK.user(x, 0, 13, 258 + 16 * 4095);
    }

    private static void nothings() {
        stops("6201;6202;6203;6214;6224;6234;6042;CLA IAC;HLT", 1, 0, 0, 0211);
        ShareEight x = new ShareEight(6, 1, 64, 1);
        CHECK.start(x, 5, "WHO;HLT");
        CHECK.due("two done", x.run(300), 2);
        CHECK.user(x, 5, AC, 5);
    }

    private static void goesWrong(String what) {
        ShareEight x = CHECK.alone(load(5, 1, 6) + what + ";HLT");
        CHECK.due("done ahead of " + what, x.run(100), 4);
        CHECK.due("state of " + what, x.user(0, STATE), 7);
        CHECK.due("PC of " + what, x.user(0, PC), 0205);
        CHECK.due("AC of " + what, x.user(0, AC), 5);
        CHECK.due("LINK of " + what, x.user(0, LINK), 1);
        CHECK.due("MQ of " + what, x.user(0, MQ), 6);
        CHECK.due("count of " + what, x.user(0, DONE), 5);
        CHECK.due("RUN of " + what, x.slot(0, 2), 1);
    }

    private static void wrong() {
        String[] all = {"6000", "6001", "6002", "6030", "6033", "6035", "6040", "6043", "6047", "6200", "6204", "6211",
            "6421", "6416", "6442", "6777", "7403", "7411", "7623", "7531", "7771"};
        for (String what : all) {
            goesWrong(what);
        }
    }

    private static void blocks() {
        ShareEight x = CHECK.alone(load(012, 1, 07700) + "WRB;CLA IAC;HLT;*7700;11;12;*7720;13;*0;21;*77;22;*100;23");
        x.run(4);
        CHECK.due("a BLOCK isn't done at once", x.run(1), 0);
        CHECK.user(x, 0, STATE, 5);
        CHECK.user(x, 0, PC, 0206);
        CHECK.user(x, 0, AC, 012);
        CHECK.user(x, 0, DONE, 5);
        CHECK.due("the task begins", x.run(1), 0);
        CHECK.look(x, 2, 4);
        CHECK.look(x, 3, 0);
        CHECK.look(x, 4, 0);
        CHECK.look(x, 5, 0);
        CHECK.due("an eighth", x.run(1), 0);
        CHECK.due("its first word", x.block(0, 2, 0), 011);
        CHECK.due("no more than sixteen", x.block(0, 2, 16), 0);
        CHECK.due("seven eighths", x.run(6), 0);
        CHECK.look(x, 4, 112);
        CHECK.due("word 16", x.block(0, 2, 16), 013);
        CHECK.due("the BLOCK, and what is behind it", x.run(1), 2);
        CHECK.look(x, 12, 1);
        CHECK.user(x, 0, DONE, 7);
        CHECK.user(x, 0, AC, 1);
        CHECK.due("word 0", x.block(0, 2, 0), 011);
        CHECK.due("word 1", x.block(0, 2, 1), 012);
        CHECK.due("going round", x.block(0, 2, 64), 021);
        CHECK.due("the last word", x.block(0, 2, 127), 022);
        CHECK.due("others", x.block(0, 1, 0), 0);
        CHECK.due("writing changes nothing in core", x.slot(0, 1), 0);
        x.run(1);
        CHECK.start(x, 0, load(2, 0, 0377) + "RDB;HLT");
        x.run(400);
        CHECK.user(x, 0, STATE, 6);
        CHECK.user(x, 0, AC, 0);
        CHECK.user(x, 0, LINK, 0);
        CHECK.user(x, 0, MQ, 0377);
        CHECK.due("read", x.word(0, 0377), 011);
        CHECK.due("read on", x.word(0, 0400), 012);
        CHECK.due("the last one", x.word(0, 0576), 022);
        CHECK.due("not beyond", x.word(0, 0577), 0);
        CHECK.due("reading makes it CHANGED", x.slot(0, 1), 1);
    }
}
