/** Promises 2 to 6: the tape, and what is made of a source. */
public final class SourcesTest {
    private static final int NONE = ShareEight.NONE;
    private static final Check CHECK = new Check("SourcesTest");

    public static void main(String[] args) {
        feed();
        end();
        assemble();
        fault();
        made();
        numbersAndLetters();
        values();
        places();
        texts();
        references();
        literals();
        names();
        faultsOfTokens();
        faultsOfPlacing();
        faultsOfNames();
        faultsOfRoom();
        orderOfFaults();
        CHECK.finish();
    }

    private static void feed() {
        ShareEight x = new ShareEight(1, 1, 1, 1);
        CHECK.due("feed first", x.feed(0x2a323030, 0x0a373737, 0x370a2020, 0x20202020, 0x20202020), 20);
        CHECK.look(x, 11, 20);
        CHECK.due("its words", x.assemble(), 1);
        CHECK.due("the word", x.made(0200), 07777);
        CHECK.look(x, 11, 0);
        for (int i = 1; i <= 100; i++) {
            CHECK.due("feed " + i, x.feed(-1, 0, 0, 0, 0), 20 * i);
        }
        CHECK.due("feed beyond 2000", x.feed(0, 0, 0, 0, 0), NONE);
        CHECK.look(x, 11, 2000);
        CHECK.due("end(1981)", x.end(1981), true);
        CHECK.due("feed with room for 19", x.feed(0, 0, 0, 0, 0), NONE);
        CHECK.due("end(1980)", x.end(1980), true);
        CHECK.due("feed with room for 20", x.feed(0, 0, 0, 0, 0), 2000);
        CHECK.due("bytes above 127 are bytes", x.assemble(), NONE);
        CHECK.due("fault of byte 255", x.fault(0), 1);
        CHECK.due("its place", x.fault(1), 0);
    }

    private static void end() {
        ShareEight x = new ShareEight(1, 1, 1, 1);
        CHECK.due("end(0) of nothing", x.end(0), true);
        CHECK.due("end(1) of nothing", x.end(1), false);
        Check.feed(x, "1;2;3;4");
        CHECK.due("end(-1)", x.end(-1), false);
        CHECK.due("end(8)", x.end(8), false);
        CHECK.due("end(min)", x.end(Integer.MIN_VALUE), false);
        CHECK.look(x, 11, 7);
        CHECK.due("end(7)", x.end(7), true);
        CHECK.due("end(3)", x.end(3), true);
        CHECK.due("end(4) then", x.end(4), false);
        CHECK.due("words", x.assemble(), 2);
    }

    private static void assemble() {
        ShareEight x = new ShareEight(1, 1, 1, 1);
        CHECK.due("of an empty tape", x.assemble(), 0);
        CHECK.due("two words", Check.assemble(x, "*10;1;2"), 2);
        CHECK.due("the tape is empty", x.look(11), 0);
        CHECK.due("a fault", Check.assemble(x, "*20;1;)"), NONE);
        CHECK.due("the tape is empty behind a fault", x.look(11), 0);
        CHECK.due("those before stay", x.made(010), 1);
        CHECK.due("nothing of the wrong one", x.made(020), NONE);
        CHECK.due("in place of those before", Check.assemble(x, "*20;1"), 1);
        CHECK.due("they are gone", x.made(010), NONE);
        CHECK.due("a place counts once", Check.assemble(x, "1;2;*200;3"), 2);
        CHECK.due("literals count", Check.assemble(x, "TAD (1;TAD (2;TAD (1"), 5);
        CHECK.due("nothing takes all away", x.assemble(), 0);
        CHECK.due("gone", x.made(0200), NONE);
        CHECK.due("a name", Check.assemble(x, "A,B=5;A"), 1);
        CHECK.due("it may be told again", Check.assemble(x, "A,A;C,"), 1);
        CHECK.due("names before are gone", Check.assemble(x, "C;B"), NONE);
        CHECK.due("untold", x.fault(0), 3);
        CHECK.due("C is untold", x.fault(1), 0);
        CHECK.words("$ ) what ever", 0);
        CHECK.words("1;2\n\n;;3 /4;5)\n$6", 3);
    }

    private static void fault() {
        ShareEight x = new ShareEight(1, 1, 1, 1);
        CHECK.due("fault(0) before any", x.fault(0), 0);
        CHECK.due("fault(1) before any", x.fault(1), NONE);
        Check.assemble(x, "1\n )");
        CHECK.due("fault(0)", x.fault(0), 2);
        CHECK.due("fault(1)", x.fault(1), 3);
        CHECK.due("fault(2)", x.fault(2), NONE);
        CHECK.due("fault(-1)", x.fault(-1), NONE);
        CHECK.due("fault(max)", x.fault(Integer.MAX_VALUE), NONE);
        Check.feed(x, "1");
        CHECK.due("feeding lets it be", x.fault(0), 2);
        x.assemble();
        CHECK.due("fault(0) of the next", x.fault(0), 0);
        CHECK.due("fault(1) of the next", x.fault(1), NONE);
    }

    private static void made() {
        ShareEight x = new ShareEight(1, 1, 1, 1);
        CHECK.due("made at first", x.made(0), NONE);
        Check.assemble(x, "*0;5;*7777;6");
        CHECK.due("made(0)", x.made(0), 5);
        CHECK.due("made(07777)", x.made(07777), 6);
        CHECK.due("made(1)", x.made(1), NONE);
        CHECK.due("made(-1)", x.made(-1), NONE);
        CHECK.due("made(4096)", x.made(4096), NONE);
        CHECK.due("made(max)", x.made(Integer.MAX_VALUE), NONE);
        CHECK.due("made(min)", x.made(Integer.MIN_VALUE), NONE);
        CHECK.made("ZBLOCK 1", 0200, 0, NONE);
    }

    private static void numbersAndLetters() {
        CHECK.made("17;0;7777;0007", 0200, 017, 0, 07777, 7);
        CHECK.made("DECIMAL;17;4095;9;OCTAL;17", 0200, 17, 4095, 9, 017);
        CHECK.made("\"A;\" ;\"/;\"\";\";;\"$;\"~", 0200, 0301, 0240, 0257, 0242, 0273, 0244, 0376);
        CHECK.made("DECIMAL;*128;10;", 128, 10, NONE);
        CHECK.made("10;DECIMAL;10", 0200, 8, 10);
    }

    private static void values() {
        CHECK.made("1+2;5-7;12!5;17&5;-1;3--1;1-2+3", 0200, 3, 07776, 017, 5, 07777, 4, 2);
        CHECK.made("7+1&12;7777+1;.;.+5;-.", 0200, 010, 0, 0202, 0210, 07574);
        CHECK.made("1 2 4;1 -2;A=3;A 4;CLA CLL", 0200, 7, 07777, 7, 07300);
    }

    private static void places() {
        CHECK.made("1;*300;2;*.+1;3", 0300, 2, NONE, 3);
        CHECK.made("PAGE;1;PAGE;2;PAGE 3;3", 0200, 1);
        CHECK.made("PAGE;1;PAGE;2;PAGE 3;3", 0400, 2);
        CHECK.made("PAGE;1;PAGE;2;PAGE 3;3", 0600, 3);
        CHECK.made("PAGE 0;5;PAGE 37;6", 0, 5);
        CHECK.made("PAGE 0;5;PAGE 37;6", 07600, 6);
        CHECK.made("*7777;1\nA,B,PAGE;C=.\n*0;C;A", 0, 0, 0);
        CHECK.made("1;ZBLOCK 3;2;ZBLOCK 0;3", 0200, 1, 0, 0, 0, 2, 3, NONE);
        CHECK.words("*0;ZBLOCK 7777;1", 4096);
        CHECK.words("*7776;1;2;ZBLOCK 0", 2);
        CHECK.words("*7776;ZBLOCK 2", 2);
        CHECK.made("A,B,0;C, ;D,A;B;C;D", 0200, 0, 0200, 0200, 0201, 0201);
    }

    private static void texts() {
        CHECK.made("TEXT /AB/;5", 0200, 0102, 0, 5);
        CHECK.made("TEXT/ABC/;5", 0200, 0102, 0300, 5);
        CHECK.made("TEXT //", 0200, 0, NONE);
        CHECK.made("TEXT  \"A;$/ \" /x\n5", 0200, 0173, 04457, 04000, 5);
        CHECK.made("L, TEXT ZabZ;L", 0200, 04142, 0, 0200);
        CHECK.words("*7776;TEXT 'ABC'", 2);
        CHECK.fault("*7776;TEXT 'ABCD'", 6, 6);
    }

    private static void references() {
        CHECK.made("TAD 50;TAD I 50;TAD Z 50;TAD Z I 50", 0200, 01050, 01450, 01050, 01450);
        CHECK.made("AND A;ISZ I A;DCA .;JMS .+1;A,JMP A", 0200, 0204, 02604, 03202, 04204, 05204);
        CHECK.made("TAD;TAD I;TAD Z;TAD I I 5;JMP -1", 0200, 01000, 01400, 01000, 01405, 04777);
        CHECK.made("TAD 400;JMP 400", 0200, 01777, 05777);
        CHECK.made("TAD 400;JMP 400", 0376, NONE, 0400);
        CHECK.made("*20;TAD 400", 020, 01577);
        CHECK.made("*20;TAD 177;TAD 200-1", 020, 01177, 01177);
        CHECK.made("AND 400;I 1000;JMP 400", 0200, 0777, 01400, 05777);
        CHECK.made("TAD I+1;TAD Z 7", 0200, 01777, 01007);
        CHECK.made("TAD I+1", 0377, 0401);
        CHECK.made("CLA TAD 5;TAD!5;TAD+5", 0200, 07205, 01005, 01005);
        CHECK.fault("JMP I 400", 7, 6);
        CHECK.fault("JMP I Z 400", 7, 8);
        CHECK.fault("TAD 5 6", 2, 4);
        CHECK.fault("TAD I CLA (6", 2, 6);
        CHECK.fault("TAD 5 I", 2, 4);
        CHECK.fault("TAD 5 PAGE", 2, 6);
        CHECK.fault("TAD (5) 6", 2, 8);
        CHECK.fault("TAD I, 5", 2, 5);
    }

    private static void literals() {
        CHECK.made("TAD (5;TAD (6);TAD (5;TAD [5", 0200, 01377, 01376, 01377, 01177);
        CHECK.made("TAD (5;TAD (6);TAD (5;TAD [5", 0376, 6, 5);
        CHECK.made("TAD (5;TAD (6);TAD (5;TAD [5", 0177, 5);
        CHECK.made("(5;CLA [6];[.", 0200, 0377, 07377, 0176);
        CHECK.made("(5;CLA [6];[.", 0176, 0202, 6);
        CHECK.made("TAD I (5;*400;TAD (5;JMP 200", 0400, 01377, 05776);
        CHECK.made("TAD I (5;*400;TAD (5;JMP 200", 0200, 01777);
        CHECK.made("TAD (400;TAD 400", 0200, 01377, 01777);
        CHECK.made("TAD (A+1;A=3;TAD (-1", 0376, 07777, 4);
        CHECK.fault("TAD (5];", 2, 6);
        CHECK.fault("TAD ()", 2, 5);
        CHECK.fault("TAD (", 2, 5);
        CHECK.fault("TAD ((5", 2, 5);
        CHECK.fault("(5 6", 2, 3);
    }

    private static void names() {
        String all = "AND;TAD;ISZ;DCA;JMS;JMP;I;Z;NOP;CLA;CLL;CMA;CML;RAR;RAL;RTR;RTL;BSW;IAC;CIA;STL;SMA;SZA;SPA;SNA;SNL;"
                + "SZL;SKP;OSR;HLT;MQL;MQA;SWP;MUY;DVI;SHL;ASR;LSR;KSF;KCC;KRS;KRB;TSF;TLS;SLEEP;WHO;RDB;WRB";
        CHECK.made(all, 0200, 0, 01000, 02000, 03000, 04000, 05000, 0400, 0, 07000, 07200, 07100, 07040, 07020, 07010,
                07004, 07012, 07006, 07002, 07001, 07041, 07120, 07500, 07440, 07510, 07450, 07420, 07430, 07410, 07404,
                07402, 07421, 07501, 07521, 07405, 07407, 07413, 07415, 07417, 06031, 06032, 06034, 06036, 06041, 06046,
                06420, 06417, 06440, 06441, NONE);
        CHECK.made("A1B2C3D,5;A1B2C3D", 0200, 5, 0200);
        CHECK.made("A=1;A;A=A+1;A;B;B=7", 0200, 1, 2, 7, NONE);
        CHECK.made("A = 5\nB= A+A\nB", 0200, 012);
        CHECK.made("TEXTS=1;TEXTS;PAGE1=2;PAGE1", 0200, 1, 2);
    }

    private static void faultsOfTokens() {
        CHECK.fault("1;#", 1, 2);
        CHECK.fault("1;a", 1, 2);
        CHECK.fault("1;\t2", 1, 2);
        CHECK.fault("\u0000", 1, 0);
        CHECK.fault("5 ABCDEFGH", 1, 2);
        CHECK.fault("5 12345", 1, 2);
        CHECK.fault("5 18", 1, 2);
        CHECK.fault("DECIMAL; 4096", 1, 9);
        CHECK.fault("DECIMAL;9;OCTAL;9", 1, 16);
        CHECK.fault("5 \"", 1, 2);
        CHECK.fault("5 \"\n", 1, 2);
        CHECK.fault("5 \"\u007f", 1, 2);
        CHECK.made("\"~", 0200, 0376);
        CHECK.fault("\"A8", 1, 2);
        CHECK.fault("\"A12345", 1, 2);
        CHECK.fault("\"A00#", 1, 4);
        CHECK.fault("\"AB5", 3, 2);
        CHECK.fault("TEXT AXA5", 2, 8);
        CHECK.made("\"A5;\"a5;\"Z00;\"5 2;\"52", 0200, 0305, 0345, 0332, 0267, 0267);
        CHECK.made("TAD \"A-277;DECIMAL;\"A9;\"A+10", 0200, 01002, 0311, 0313);
        CHECK.fault("A, TEXT", 1, 3);
        CHECK.fault("TEXT \n/A/", 1, 0);
        CHECK.fault("TEXT /AB\n/", 1, 0);
        CHECK.fault("TEXT /A\tB/", 1, 0);
        CHECK.words("1 /\t\u00ff#\n2", 2);
    }

    private static void faultsOfPlacing() {
        CHECK.fault("A=", 2, 2);
        CHECK.fault("A=  /5\n", 2, 6);
        CHECK.fault("*;5", 2, 1);
        CHECK.fault("* /5", 2, 4);
        CHECK.fault("ZBLOCK\n", 2, 6);
        CHECK.fault("1+", 2, 2);
        CHECK.fault("--1", 2, 1);
        CHECK.fault("1 ,", 2, 2);
        CHECK.fault(",", 2, 0);
        CHECK.fault("=5", 2, 0);
        CHECK.fault("+5", 2, 0);
        CHECK.fault("1 $", 2, 2);
        CHECK.fault("DECIMAL 5", 2, 8);
        CHECK.fault("OCTAL 8", 1, 6);
        CHECK.fault("PAGE 1 2", 2, 7);
        CHECK.fault("5 PAGE", 2, 2);
        CHECK.fault("1+DECIMAL", 2, 2);
        CHECK.fault("5 TEXT /A/", 2, 2);
        CHECK.fault("5 TEXT", 2, 2);
        CHECK.fault("5 TEXT,5", 2, 2);
        CHECK.fault(";".repeat(1999) + ")", 2, 1999);
        CHECK.fault(";".repeat(1998) + "A=", 2, 2000);
        CHECK.fault(";".repeat(1999) + "#", 1, 1999);
        CHECK.words("1;".repeat(1000), 1000);
        CHECK.fault("TEXT /A/ 5", 2, 9);
        CHECK.fault("*200 5", 2, 5);
        CHECK.fault("A=5 6", 2, 4);
        CHECK.fault("5*6", 2, 1);
        CHECK.fault("5 A=6", 2, 3);
        CHECK.fault("5]", 2, 1);
    }

    private static void faultsOfNames() {
        CHECK.fault("1;A", 3, 2);
        CHECK.fault("A=B;B=1", 3, 2);
        CHECK.fault("*A;A,", 3, 1);
        CHECK.fault("PAGE A;A=1", 3, 5);
        CHECK.fault("ZBLOCK A;A=1", 3, 7);
        CHECK.fault("A=A", 3, 2);
        CHECK.fault("A,A,", 4, 2);
        CHECK.fault("A=1;A,", 4, 4);
        CHECK.fault("A,;A=1", 4, 3);
        CHECK.fault("TAD,", 5, 0);
        CHECK.fault("1;I=5", 5, 2);
        CHECK.fault("A,PAGE,", 5, 2);
        CHECK.fault("ZBLOCK=1", 5, 0);
        CHECK.fault("TEXT,5", 5, 0);
        CHECK.fault("TEXT =5=", 5, 0);
        CHECK.fault("DECIMAL ,", 5, 0);
        CHECK.fault("OCTAL =1", 5, 0);
        StringBuilder many = new StringBuilder();
        for (int i = 0; i < 200; i++) {
            many.append((char) ('A' + i / 10)).append((char) ('0' + i % 10)).append(i % 2 == 0 ? "," : "=1;");
        }
        CHECK.words(many + "\n5;A0;T9;A1=3;A1", 4);
        CHECK.fault(many + "U0,", 6, many.length());
        ShareEight twice = new ShareEight(1, 1, 1, 1);
        CHECK.due("200 names", Check.assemble(twice, many.toString()), 0);
        CHECK.due("200 names again", Check.assemble(twice, many.toString()), 0);
        CHECK.fault(many + "U0=)", 6, many.length());
    }

    private static void faultsOfRoom() {
        CHECK.fault("*7777;1;2", 6, 8);
        CHECK.fault("*7777;1;A,B,2", 6, 12);
        CHECK.fault("*7777;ZBLOCK 2", 6, 6);
        CHECK.fault("*7777;A,ZBLOCK 2", 6, 8);
        CHECK.fault("PAGE 40", 6, 5);
        CHECK.fault("PAGE  -1", 6, 6);
        CHECK.fault("*377;TAD (5", 8, 9);
        CHECK.fault("*376;0;*200;TAD (5;TAD (6", 8, 23);
        CHECK.fault("*377;0;*200;TAD 400", 8, 16);
        CHECK.fault("*177;0;*200;TAD [5", 8, 16);
        CHECK.fault("TAD (5;*377;A,0", 8, 14);
        CHECK.fault("TAD (0;*377;5", 8, 12);
        CHECK.fault("TAD (5;*370;ZBLOCK 10", 8, 12);
        CHECK.fault("TAD (5;*376;TEXT /AB/", 8, 12);
        CHECK.words("TAD (5;*376;TEXT /A/", 3);
        CHECK.words("TAD (5;*376;7", 3);
        CHECK.made("5;*200;6;*200;ZBLOCK 1", 0200, 0);
        StringBuilder full = new StringBuilder("OCTAL;*200\n");
        for (int i = 0; i < 128; i++) {
            full.append("[").append(Integer.toOctalString(i)).append(";");
        }
        CHECK.words(full.toString(), 256);
        CHECK.fault(full + "[777", 8, full.length());
    }

    private static void orderOfFaults() {
        CHECK.fault("A;)", 2, 2);
        CHECK.fault("A;A,A,", 4, 4);
        CHECK.fault("TAD=)", 5, 0);
        CHECK.fault("A,;A=B", 4, 3);
        CHECK.fault("*7777;0;TAD )", 6, 8);
        CHECK.fault("*7777;0;)", 2, 8);
        CHECK.fault("*7777;ZBLOCK B", 3, 13);
        CHECK.fault("*7777;ZBLOCK 5 )", 6, 6);
        CHECK.fault("*7777;A,ZBLOCK 2 5", 6, 8);
        CHECK.fault("*7777;ZBLOCK 2 %", 6, 6);
        CHECK.fault("*7777;ZBLOCK 1 5", 2, 15);
        CHECK.fault("*7777;ZBLOCK 1 9", 1, 15);
        CHECK.fault("*7777;ZBLOCK 2+", 2, 15);
        CHECK.fault("*7777;ZBLOCK 2+)", 2, 15);
        CHECK.fault("*7777;ZBLOCK 9 5", 1, 13);
        CHECK.fault("*7777;TEXT /ABCD/ )", 6, 6);
        CHECK.fault("*7777;TEXT /A/ )", 2, 15);
        CHECK.fault("*7777;TEXT /ABCD", 1, 6);
        // The first pass's fault is told ahead of a clash with a literal, which is the second's.
        CHECK.fault("TAD (5;*377;ZBLOCK 1 5", 2, 21);
        CHECK.fault("TAD (5;*377;TEXT /A/ 5", 2, 21);
        CHECK.fault("TAD (5;*377;B", 8, 12);
        CHECK.fault("TAD 400 )", 2, 8);
        CHECK.fault("JMP I 400;B", 7, 6);
        CHECK.fault("JMP I B;JMP I 400", 3, 6);
    }
}
