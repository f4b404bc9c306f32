/** Promises 1 and 7 to 21: users, slots, the queue, the channel, and what can be looked at. */
public final class HouseTest {
    private static final int NONE = ShareEight.NONE;
    private static final int MIN = Integer.MIN_VALUE;
    private static final int MAX = Integer.MAX_VALUE;
    private static final Check CHECK = new Check("HouseTest");
    private static final String LOOP = "*200;JMP .";
    private static final String CHANGING = "*200;ISZ 50;JMP .-1;JMP .-2";

    public static void main(String[] args) {
        newObject();
        nearestNumbers();
        mount();
        mountAfterRunning();
        begin();
        halt();
        key();
        set();
        deposit();
        run();
        user();
        look();
        word();
        core();
        drum();
        slot();
        block();
        paper();
        quanta();
        comingIn();
        goingOut();
        whichSlot();
        blocksAndQueue();
        outWhileOthersRun();
        blockThenQueue();
        longestWaits();
        wakingInOrder();
        CHECK.finish();
    }

    private static void newObject() {
        CHECK.due("NONE", ShareEight.NONE, -1);
        ShareEight x = new ShareEight(2, 2, 5, 5);
        for (int u = 0; u < 2; u++) {
            for (int what = 0; what <= 8; what++) {
                CHECK.user(x, u, what, 0);
            }
            CHECK.user(x, u, 9, NONE);
            CHECK.user(x, u, 10, NONE);
            CHECK.user(x, u, 11, 0);
            CHECK.user(x, u, 12, 0);
            CHECK.user(x, u, 13, NONE);
            CHECK.user(x, u, 14, NONE);
            CHECK.due("word", x.word(u, 0200), 0);
            CHECK.due("block", x.block(u, 7, 127), 0);
        }
        int[] looks = {0, NONE, 0, NONE, 0, NONE, 0, 0, 0, 0, 0, 0, 0};
        for (int what = 0; what < looks.length; what++) {
            CHECK.look(x, what, looks[what]);
        }
        CHECK.due("no words made", x.made(0200), NONE);
        CHECK.due("no fault", x.fault(0), 0);
    }

    private static void nearestNumbers() {
        ShareEight x = new ShareEight(MIN, 0, -5, 0);
        CHECK.due("user 0", x.user(0, 0), 0);
        CHECK.due("no user 1", x.user(1, 0), NONE);
        CHECK.due("slot 0", x.core(0, 0), 0);
        CHECK.due("no slot 1", x.core(1, 0), NONE);
        CHECK.start(x, 0, "TLS;TLS;TLS;JMP .");
        x.run(257);
        CHECK.user(x, 0, 14, 1);
        x.run(3);
        CHECK.user(x, 0, 8, 3);
        x = new ShareEight(7, MAX, 65, MAX);
        CHECK.due("user 5", x.user(5, 0), 0);
        CHECK.due("no user 6", x.user(6, 0), NONE);
        CHECK.due("slot 3", x.core(3, 0), 0);
        CHECK.due("no slot 4", x.core(4, 0), NONE);
        CHECK.start(x, 0, "TLS;TLS;TLS;JMP .");
        x.run(257);
        CHECK.user(x, 0, 14, 63);
        x.run(64);
        CHECK.user(x, 0, 8, 1);
        x.run(1);
        CHECK.user(x, 0, 8, 2);
        x = new ShareEight(6, 4, 64, 64);
        CHECK.due("user 5 of 6", x.user(5, 0), 0);
        CHECK.due("slot 3 of 4", x.core(3, 0), 0);
    }

    private static void mount() {
        ShareEight x = new ShareEight(2, 1, 4, 4);
        CHECK.due("mount(-1)", x.mount(-1), false);
        CHECK.due("mount(2)", x.mount(2), false);
        CHECK.due("mount(max)", x.mount(MAX), false);
        CHECK.due("deposit for an EMPTY one", x.deposit(0, 5, 5), true);
        Check.assemble(x, "*200;CLA;HLT");
        CHECK.due("mount(0)", x.mount(0), true);
        CHECK.user(x, 0, 0, 6);
        CHECK.user(x, 0, 1, 0200);
        CHECK.due("a word", x.word(0, 0200), 07200);
        CHECK.due("on the DRUM", x.drum(0, 0201), 07402);
        CHECK.due("all others 0", x.word(0, 5), 0);
        CHECK.due("of one alone", x.word(1, 0200), 0);
        CHECK.user(x, 1, 0, 0);
        CHECK.due("mount of a STOPPED one", x.mount(0), true);
        x.begin(0, 0200);
        CHECK.due("mount of a READY one", x.mount(0), false);
        x.run(1);
        x.halt(0);
        CHECK.look(x, 2, 2);
        CHECK.due("mount while it comes in", x.mount(0), false);
        CHECK.due("another meanwhile", x.mount(1), true);
    }

    private static void mountAfterRunning() {
        ShareEight x = new ShareEight(1, 1, 64, 64);
        CHECK.start(x, 0, "TAD (111;TLS;TLS;DCA 50;TAD (3;WRB;CLA CMA CML;DCA 51;CMA;MQL;TAD (5;6001");
        x.key(0, 1);
        x.set(0, 7);
        x.run(300);
        CHECK.user(x, 0, 0, 7);
        CHECK.user(x, 0, 9, 0);
        CHECK.user(x, 0, 2, 5);
        CHECK.user(x, 0, 3, 1);
        CHECK.user(x, 0, 4, 07777);
        CHECK.due("core's word", x.word(0, 050), 0111);
        CHECK.due("a WRONG one", x.mount(0), true);
        int[] users = {6, 0200, 0, 0, 0, 11, 1, 1, 1, NONE, NONE, 0, 7, NONE, NONE};
        for (int what = 0; what < users.length; what++) {
            CHECK.user(x, 0, what, users[what]);
        }
        CHECK.due("nobody's", x.slot(0, 0), NONE);
        CHECK.due("not CHANGED", x.slot(0, 1), 0);
        CHECK.due("has not RUN", x.slot(0, 2), 0);
        CHECK.due("FILE stays", x.block(0, 3, 050), 0111);
        CHECK.due("PAPER stays", x.paper(0, 0), 0111);
        Check.assemble(x, "*300;5");
        CHECK.due("mount", x.mount(0), true);
        CHECK.due("the words before are gone", x.word(0, 0200), 0);
        CHECK.due("the new ones are there", x.word(0, 0300), 5);
    }

    private static void begin() {
        ShareEight x = new ShareEight(2, 1, 4, 4);
        CHECK.due("an EMPTY one", x.begin(0, 0200), false);
        x.mount(0);
        CHECK.due("begin(-1, 0)", x.begin(-1, 0), false);
        CHECK.due("begin(2, 0)", x.begin(2, 0), false);
        CHECK.due("begin(0, -1)", x.begin(0, -1), false);
        CHECK.due("begin(0, 4096)", x.begin(0, 4096), false);
        CHECK.user(x, 0, 0, 6);
        CHECK.due("begin(0, 4095)", x.begin(0, 4095), true);
        CHECK.user(x, 0, 0, 1);
        CHECK.user(x, 0, 1, 4095);
        CHECK.user(x, 0, 10, 0);
        CHECK.due("a READY one", x.begin(0, 0), false);
        CHECK.user(x, 0, 1, 4095);
        x.mount(1);
        CHECK.due("begin(1, 0)", x.begin(1, 0), true);
        CHECK.user(x, 1, 10, 1);
        CHECK.look(x, 9, 2);
        x.halt(0);
        CHECK.due("comes behind", x.begin(0, 0200), true);
        CHECK.user(x, 0, 10, 1);
        CHECK.user(x, 1, 10, 0);
        x = CHECK.alone("CLA IAC;6001");
        x.run(1);
        CHECK.user(x, 0, 0, 7);
        CHECK.due("a WRONG one", x.begin(0, 0300), true);
        CHECK.user(x, 0, 2, 1);
        CHECK.user(x, 0, 1, 0300);
    }

    private static void halt() {
        ShareEight x = new ShareEight(3, 2, 4, 64);
        CHECK.due("an EMPTY one", x.halt(0), false);
        CHECK.due("halt(-1)", x.halt(-1), false);
        CHECK.due("halt(3)", x.halt(3), false);
        CHECK.start(x, 0, LOOP);
        CHECK.due("one of the QUEUE", x.halt(0), true);
        CHECK.user(x, 0, 0, 6);
        CHECK.look(x, 9, 0);
        CHECK.due("a STOPPED one", x.halt(0), false);
        x.begin(0, 0200);
        x.run(257);
        CHECK.look(x, 1, 0);
        CHECK.due("not RUN yet", x.slot(0, 2), 0);
        CHECK.due("the one that runs", x.halt(0), true);
        CHECK.look(x, 1, NONE);
        CHECK.user(x, 0, 14, NONE);
        CHECK.user(x, 0, 9, 0);
        CHECK.due("it has RUN", x.slot(0, 2), 1);
        waiting("KRB", 2, true);
        waiting("TLS;JMP 200", 3, true);
        waiting("CLA CMA;SLEEP", 4, true);
        waiting("WRB;6001", 5, false);
        waiting("HLT", 6, false);
        waiting("6001", 7, false);
    }

    private static void waiting(String source, int state, boolean want) {
        ShareEight x = new ShareEight(1, 1, 64, 64);
        CHECK.start(x, 0, source);
        x.run(256);
        int ticks = 0;
        while (x.user(0, 0) != state && ticks < 100) {
            x.run(1);
            ticks++;
        }
        CHECK.user(x, 0, 0, state);
        CHECK.due("halt in state " + state, x.halt(0), want);
        CHECK.user(x, 0, 0, want ? 6 : state);
        CHECK.user(x, 0, 13, NONE);
        x.key(0, 65);
        x.run(100);
        CHECK.user(x, 0, 0, want ? 6 : state == 5 ? 7 : state);
    }

    private static void key() {
        ShareEight x = new ShareEight(2, 1, 4, 4);
        CHECK.due("key(-1, 5)", x.key(-1, 5), false);
        CHECK.due("key(2, 5)", x.key(2, 5), false);
        CHECK.due("key(0, -1)", x.key(0, -1), false);
        CHECK.due("key(0, 128)", x.key(0, 128), false);
        CHECK.user(x, 0, 6, 0);
        CHECK.user(x, 0, 11, 0);
        for (int i = 0; i < 16; i++) {
            CHECK.due("key " + i + " of an EMPTY one", x.key(0, i == 0 ? 127 : i - 1), true);
        }
        CHECK.due("a 17th", x.key(0, 5), false);
        CHECK.due("a wrong one isn't lost", x.key(0, 128), false);
        CHECK.due("an 18th", x.key(0, 5), false);
        CHECK.user(x, 0, 6, 16);
        CHECK.user(x, 0, 11, 2);
        CHECK.user(x, 1, 6, 0);
        CHECK.start(x, 0, "KRB;KRB;HLT");
        x.run(257);
        CHECK.user(x, 0, 2, 0377);
        x.run(1);
        CHECK.user(x, 0, 2, 0200);
        CHECK.user(x, 0, 6, 14);
        x = new ShareEight(1, 1, 1, 1);
        CHECK.start(x, 0, "KRB;HLT");
        x.run(300);
        CHECK.user(x, 0, 0, 2);
        CHECK.user(x, 0, 10, NONE);
        x.key(0, 0);
        CHECK.user(x, 0, 0, 1);
        CHECK.user(x, 0, 10, 0);
    }

    private static void set() {
        ShareEight x = new ShareEight(2, 1, 4, 4);
        CHECK.due("set(0, 4095)", x.set(0, 4095), true);
        CHECK.due("set(-1, 0)", x.set(-1, 0), false);
        CHECK.due("set(2, 0)", x.set(2, 0), false);
        CHECK.due("set(0, -1)", x.set(0, -1), false);
        CHECK.due("set(0, 4096)", x.set(0, 4096), false);
        CHECK.user(x, 0, 12, 4095);
        CHECK.user(x, 1, 12, 0);
        CHECK.due("set(0, 0)", x.set(0, 0), true);
        CHECK.user(x, 0, 12, 0);
        CHECK.start(x, 0, LOOP);
        x.run(300);
        CHECK.due("of one that runs", x.set(0, 5), true);
        CHECK.user(x, 0, 12, 5);
    }

    private static void deposit() {
        ShareEight x = new ShareEight(2, 1, 4, 4);
        CHECK.due("an EMPTY one", x.deposit(0, 4095, 4095), true);
        CHECK.due("word", x.word(0, 4095), 4095);
        CHECK.due("drum", x.drum(0, 4095), 4095);
        CHECK.due("other users", x.word(1, 4095), 0);
        CHECK.due("deposit(-1, 0, 0)", x.deposit(-1, 0, 0), false);
        CHECK.due("deposit(2, 0, 0)", x.deposit(2, 0, 0), false);
        CHECK.due("deposit(0, -1, 0)", x.deposit(0, -1, 0), false);
        CHECK.due("deposit(0, 4096, 0)", x.deposit(0, 4096, 0), false);
        CHECK.due("deposit(0, 0, -1)", x.deposit(0, 0, -1), false);
        CHECK.due("deposit(0, 0, 4096)", x.deposit(0, 0, 4096), false);
        CHECK.start(x, 0, "NOP;HLT");
        CHECK.due("a READY one", x.deposit(0, 0, 1), false);
        x.run(100);
        x.halt(0);
        CHECK.due("one that comes in", x.deposit(0, 0, 1), false);
        x.run(200);
        CHECK.user(x, 0, 9, 0);
        CHECK.due("not CHANGED yet", x.slot(0, 1), 0);
        CHECK.due("one in core", x.deposit(0, 0, 1), true);
        CHECK.due("core", x.core(0, 0), 1);
        CHECK.due("word", x.word(0, 0), 1);
        CHECK.due("not on the DRUM", x.drum(0, 0), 0);
        CHECK.due("CHANGED", x.slot(0, 1), 1);
        CHECK.start(x, 1, LOOP);
        x.run(10);
        CHECK.look(x, 2, 1);
        CHECK.due("one that goes out", x.deposit(0, 0, 2), false);
        CHECK.due("nor mount", x.mount(0), false);
        x.run(300);
        CHECK.due("one that is out", x.deposit(0, 1, 2), true);
        CHECK.due("the DRUM", x.drum(0, 1), 2);
        CHECK.due("what went out", x.drum(0, 0), 1);
    }

    private static void run() {
        ShareEight x = new ShareEight(1, 1, 4, 4);
        CHECK.due("run(0)", x.run(0), NONE);
        CHECK.due("run(-1)", x.run(-1), NONE);
        CHECK.due("run(20001)", x.run(20001), NONE);
        CHECK.due("run(min)", x.run(MIN), NONE);
        CHECK.due("run(max)", x.run(MAX), NONE);
        CHECK.look(x, 0, 0);
        CHECK.due("run(20000)", x.run(20000), 0);
        CHECK.look(x, 0, 20000);
        CHECK.look(x, 8, 20000);
        CHECK.start(x, 0, LOOP);
        CHECK.due("coming in", x.run(256), 0);
        CHECK.due("one", x.run(1), 1);
        CHECK.due("a hundred", x.run(100), 100);
        CHECK.look(x, 10, 101);
        CHECK.look(x, 8, 20256);
    }

    private static void user() {
        ShareEight x = new ShareEight(2, 1, 8, 3);
        CHECK.due("user(-1, 0)", x.user(-1, 0), NONE);
        CHECK.due("user(2, 0)", x.user(2, 0), NONE);
        CHECK.due("user(0, -1)", x.user(0, -1), NONE);
        CHECK.due("user(0, 15)", x.user(0, 15), NONE);
        CHECK.due("user(max, max)", x.user(MAX, MAX), NONE);
        int[] users = {1, 0205, 07777, 1, 0, 5, 1, 2, 1, 0, NONE, 0, 0123, NONE, 3};
        CHECK.start(x, 0, "*200;CLA CLL CMA CML;NOP;TLS;TLS;TLS;JMP .");
        x.key(0, 5);
        x.set(0, 0123);
        x.run(257 + 4);
        for (int what = 0; what < users.length; what++) {
            CHECK.user(x, 0, what, users[what]);
        }
    }

    private static void look() {
        ShareEight x = new ShareEight(2, 1, 8, 3);
        CHECK.look(x, -1, NONE);
        CHECK.look(x, 13, NONE);
        CHECK.look(x, MAX, NONE);
        CHECK.look(x, MIN, NONE);
        CHECK.start(x, 1, LOOP);
        Check.feed(x, "12345");
        x.run(11);
        int[] looks = {11, NONE, 2, 1, 160, 0, 0, 0, 11, 1, 0, 5, 0};
        for (int what = 0; what < looks.length; what++) {
            CHECK.look(x, what, looks[what]);
        }
        x.run(250);
        int[] later = {261, 1, 0, NONE, 0, NONE, 1, 0, 256, 0, 5, 5, 0};
        for (int what = 0; what < later.length; what++) {
            CHECK.look(x, what, later[what]);
        }
    }

    private static void word() {
        ShareEight x = new ShareEight(2, 1, 8, 3);
        CHECK.due("word(-1, 0)", x.word(-1, 0), NONE);
        CHECK.due("word(2, 0)", x.word(2, 0), NONE);
        CHECK.due("word(0, -1)", x.word(0, -1), NONE);
        CHECK.due("word(0, 4096)", x.word(0, 4096), NONE);
        CHECK.due("word(0, 4095)", x.word(0, 4095), 0);
        CHECK.start(x, 0, CHANGING);
        x.run(100);
        CHECK.due("while it comes in", x.word(0, 0200), 02050);
        x.run(157);
        CHECK.due("in core", x.word(0, 050), 1);
        CHECK.due("not on the DRUM", x.drum(0, 050), 0);
    }

    private static void core() {
        ShareEight x = new ShareEight(2, 2, 8, 3);
        CHECK.due("core(-1, 0)", x.core(-1, 0), NONE);
        CHECK.due("core(2, 0)", x.core(2, 0), NONE);
        CHECK.due("core(0, -1)", x.core(0, -1), NONE);
        CHECK.due("core(0, 4096)", x.core(0, 4096), NONE);
        CHECK.due("core(1, 4095)", x.core(1, 4095), 0);
        CHECK.start(x, 0, "*17;1;2;*200;JMP .;*7777;3");
        x.run(2);
        CHECK.due("the first sixteen", x.core(0, 017), 1);
        CHECK.due("not more", x.core(0, 020), 0);
        x.run(1);
        CHECK.due("the next", x.core(0, 020), 2);
        CHECK.due("whose it is: nobody's", x.slot(0, 0), NONE);
        x.run(253);
        CHECK.due("not all yet", x.core(0, 07777), 0);
        x.run(1);
        CHECK.due("all", x.core(0, 07777), 3);
        CHECK.due("the other slot", x.core(1, 017), 0);
        x.halt(0);
        Check.assemble(x, "5");
        x.mount(0);
        CHECK.due("nobody's words lie there still", x.core(0, 07777), 3);
    }

    private static void drum() {
        ShareEight x = new ShareEight(2, 1, 8, 3);
        CHECK.due("drum(-1, 0)", x.drum(-1, 0), NONE);
        CHECK.due("drum(2, 0)", x.drum(2, 0), NONE);
        CHECK.due("drum(0, -1)", x.drum(0, -1), NONE);
        CHECK.due("drum(0, 4096)", x.drum(0, 4096), NONE);
        CHECK.due("drum(1, 4095)", x.drum(1, 4095), 0);
        CHECK.start(x, 0, CHANGING);
        x.run(300);
        int counted = x.word(0, 050);
        CHECK.due("as it lies there", x.drum(0, 050), 0);
        x.halt(0);
        CHECK.start(x, 1, LOOP);
        x.run(1);
        CHECK.look(x, 2, 1);
        x.run(2);
        CHECK.due("not yet out", x.drum(0, 050), 0);
        x.run(1);
        CHECK.due("word 050 is of the third sixteen", x.drum(0, 050), counted);
    }

    private static void slot() {
        ShareEight x = new ShareEight(2, 2, 8, 3);
        CHECK.due("slot(-1, 0)", x.slot(-1, 0), NONE);
        CHECK.due("slot(2, 0)", x.slot(2, 0), NONE);
        CHECK.due("slot(0, -1)", x.slot(0, -1), NONE);
        CHECK.due("slot(0, 3)", x.slot(0, 3), NONE);
        CHECK.slotIs(x, 0, NONE, 0, 0);
        CHECK.start(x, 1, "*200;NOP;NOP;ISZ 50;JMP .");
        x.run(256);
        CHECK.slotIs(x, 0, NONE, 0, 0);
        x.run(1);
        CHECK.slotIs(x, 0, 1, 0, 0);
        x.run(2);
        CHECK.slotIs(x, 0, 1, 1, 0);
        x.run(4);
        CHECK.slotIs(x, 0, 1, 1, 0);
        x.run(1);
        CHECK.slotIs(x, 0, 1, 1, 1);
        CHECK.slotIs(x, 1, NONE, 0, 0);
    }

    private static void block() {
        ShareEight x = new ShareEight(2, 1, 8, 3);
        CHECK.due("block(-1, 0, 0)", x.block(-1, 0, 0), NONE);
        CHECK.due("block(2, 0, 0)", x.block(2, 0, 0), NONE);
        CHECK.due("block(0, -1, 0)", x.block(0, -1, 0), NONE);
        CHECK.due("block(0, 8, 0)", x.block(0, 8, 0), NONE);
        CHECK.due("block(0, 0, -1)", x.block(0, 0, -1), NONE);
        CHECK.due("block(0, 0, 128)", x.block(0, 0, 128), NONE);
        CHECK.due("block(0, 7, 127)", x.block(0, 7, 127), 0);
        CHECK.due("block(0, 0, 0)", x.block(0, 0, 0), 0);
        CHECK.start(x, 1, "TAD (200;MQL;TAD (7;WRB;HLT");
        x.run(400);
        CHECK.user(x, 1, 0, 6);
        CHECK.due("the last BLOCK's last word", x.block(1, 7, 127), x.word(1, 0377));
        CHECK.due("its first word", x.block(1, 7, 0), x.word(1, 0200));
        CHECK.due("another user's", x.block(0, 7, 0), 0);
    }

    private static void paper() {
        ShareEight x = new ShareEight(2, 1, 64, 1);
        CHECK.due("paper(-1, 0)", x.paper(-1, 0), NONE);
        CHECK.due("paper(2, 0)", x.paper(2, 0), NONE);
        CHECK.due("paper(0, 0)", x.paper(0, 0), NONE);
        CHECK.start(x, 0, "TLS;IAC;JMP 200");
        x.run(257);
        CHECK.due("in OUT still", x.paper(0, 0), NONE);
        x.run(3 * 501);
        CHECK.user(x, 0, 8, 501);
        CHECK.due("letter 0", x.paper(0, 0), 0);
        CHECK.due("letter 1", x.paper(0, 1), 1);
        CHECK.due("seven bits", x.paper(0, 130), 2);
        CHECK.due("letter 499", x.paper(0, 499), 499 & 127);
        CHECK.due("letter 500 is lost", x.paper(0, 500), NONE);
        CHECK.due("paper(0, -1)", x.paper(0, -1), NONE);
        CHECK.due("paper(0, max)", x.paper(0, MAX), NONE);
        CHECK.due("paper(1, 0)", x.paper(1, 0), NONE);
    }

    private static void quanta() {
        ShareEight x = new ShareEight(2, 2, 3, 1);
        CHECK.start(x, 0, LOOP);
        x.run(257);
        CHECK.user(x, 0, 14, 2);
        x.run(2);
        CHECK.user(x, 0, 14, 3);
        CHECK.look(x, 1, 0);
        CHECK.start(x, 1, LOOP);
        x.run(1);
        CHECK.user(x, 0, 14, 2);
        CHECK.look(x, 9, 1);
        x.run(2);
        CHECK.look(x, 1, NONE);
        CHECK.user(x, 0, 10, 1);
        CHECK.user(x, 1, 10, 0);
        CHECK.due("passes over one without a slot", x.run(1), 1);
        CHECK.look(x, 1, 0);
        CHECK.user(x, 0, 14, 2);
        x.run(300);
        CHECK.user(x, 1, 9, 1);
        int first = x.user(0, 5);
        int second = x.user(1, 5);
        CHECK.due("nobody is idle", x.run(6), 6);
        CHECK.user(x, 0, 5, first + 3);
        CHECK.user(x, 1, 5, second + 3);
    }

    private static void comingIn() {
        ShareEight x = new ShareEight(1, 1, 8, 1);
        CHECK.start(x, 0, "HLT");
        x.run(1);
        CHECK.look(x, 2, 2);
        CHECK.look(x, 4, 0);
        x.run(255);
        CHECK.look(x, 4, 4080);
        CHECK.user(x, 0, 9, NONE);
        CHECK.due("done, and run in the same tick", x.run(1), 1);
        CHECK.user(x, 0, 9, 0);
        CHECK.look(x, 6, 1);
        CHECK.look(x, 8, 256);
        CHECK.due("RUN when it stops", x.slot(0, 2), 1);
        x.begin(0, 0200);
        CHECK.due("its slot is there still", x.run(1), 1);
        CHECK.look(x, 6, 1);
    }

    private static void goingOut() {
        ShareEight x = new ShareEight(2, 1, 2, 1);
        CHECK.start(x, 0, CHANGING);
        CHECK.start(x, 1, LOOP);
        x.run(257);
        CHECK.look(x, 1, 0);
        x.run(1);
        CHECK.user(x, 0, 10, 1);
        CHECK.due("CHANGED", x.slot(0, 1), 1);
        CHECK.due("one that goes out is passed over", x.run(1), 0);
        CHECK.look(x, 2, 1);
        CHECK.look(x, 3, 0);
        CHECK.look(x, 5, 0);
        CHECK.user(x, 0, 9, 0);
        CHECK.due("all the while", x.run(255), 0);
        CHECK.look(x, 4, 4080);
        x.run(1);
        CHECK.look(x, 7, 1);
        CHECK.user(x, 0, 9, NONE);
        CHECK.look(x, 2, 2);
        CHECK.look(x, 3, 1);
        CHECK.look(x, 4, 0);
        CHECK.due("In", x.run(256), 1);
        CHECK.user(x, 1, 9, 0);
        x.run(1);
        CHECK.due("one that isn't CHANGED is nobody's at once", x.run(1), 0);
        CHECK.look(x, 2, 2);
        CHECK.look(x, 3, 0);
        CHECK.look(x, 7, 1);
        CHECK.user(x, 1, 9, NONE);
    }

    private static void whichSlot() {
        ShareEight x = new ShareEight(4, 3, 4, 1);
        for (int u = 0; u < 3; u++) {
            CHECK.start(x, u, LOOP);
        }
        x.run(1000);
        for (int u = 0; u < 3; u++) {
            CHECK.user(x, u, 9, u);
        }
        x.halt(2);
        CHECK.start(x, 3, LOOP);
        x.run(1);
        CHECK.look(x, 5, 2);
        CHECK.user(x, 2, 9, NONE);
        x.run(300);
        CHECK.user(x, 3, 9, 2);
        x.begin(2, 0200);
        x.run(1);
        int running = x.look(1);
        CHECK.look(x, 5, running == 0 ? 1 : 0);
        x = new ShareEight(3, 2, 64, 1);
        CHECK.start(x, 0, "WRB;JMP .");
        CHECK.start(x, 1, LOOP);
        CHECK.start(x, 2, LOOP);
        x.run(257);
        CHECK.user(x, 0, 0, 5);
        CHECK.look(x, 2, 2);
        x.run(255);
        CHECK.look(x, 2, 2);
        x.run(1);
        CHECK.look(x, 2, 4);
        x.run(7);
        CHECK.due("the slot of one that waits for a BLOCK is kept", x.user(0, 9), 0);
        x.run(1);
        CHECK.look(x, 12, 1);
        CHECK.due("READY, it has RUN: its slot is taken at once", x.user(0, 9), NONE);
        CHECK.user(x, 0, 10, 1);
        CHECK.look(x, 2, 2);
        CHECK.look(x, 3, 2);
        CHECK.look(x, 5, 0);
    }

    private static void blocksAndQueue() {
        ShareEight x = new ShareEight(3, 2, 64, 1);
        CHECK.start(x, 0, "WRB;WRB;WRB;WRB;JMP .");
        x.run(258);
        CHECK.look(x, 2, 4);
        CHECK.start(x, 1, LOOP);
        x.run(8);
        CHECK.look(x, 12, 1);
        CHECK.look(x, 2, 2);
        CHECK.user(x, 0, 0, 5);
        x.run(255);
        CHECK.look(x, 6, 1);
        CHECK.start(x, 2, LOOP);
        x.run(1);
        CHECK.look(x, 6, 2);
        CHECK.look(x, 2, 4);
        CHECK.look(x, 3, 0);
        x = new ShareEight(2, 2, 1, 1);
        CHECK.start(x, 0, "NOP;KRB;RDB;HLT");
        CHECK.start(x, 1, "NOP;KRB;WRB;HLT");
        x.run(600);
        CHECK.user(x, 0, 0, 2);
        CHECK.user(x, 1, 0, 2);
        x.key(1, 1);
        x.key(0, 1);
        x.run(4);
        CHECK.user(x, 0, 0, 5);
        CHECK.user(x, 1, 0, 5);
        CHECK.look(x, 2, 4);
        CHECK.look(x, 3, 1);
        x.run(8);
        CHECK.look(x, 12, 1);
        CHECK.look(x, 2, 3);
        CHECK.look(x, 3, 0);
    }

    private static void outWhileOthersRun() {
        ShareEight x = new ShareEight(3, 2, 2, 1);
        CHECK.start(x, 0, CHANGING);
        CHECK.start(x, 1, LOOP);
        x.run(600);
        CHECK.start(x, 2, LOOP);
        int ticks = 0;
        while (x.look(2) != 1 && ticks < 10) {
            x.run(1);
            ticks++;
        }
        CHECK.look(x, 2, 1);
        CHECK.look(x, 3, 0);
        int done = x.user(1, 5);
        int others = x.user(0, 5);
        CHECK.due("the other one has all ticks", x.run(200), 200);
        CHECK.user(x, 1, 5, done + 200);
        CHECK.user(x, 0, 5, others);
    }

    /** Users 0 and 1 wait for a BLOCK each, 2 for a slot, of which there are three or two. */
    private static ShareEight threeWaiting(int slots, String second) {
        ShareEight x = new ShareEight(4, slots, 64, 1);
        CHECK.start(x, 0, "KRB;" + second + ";WRB;HLT");
        CHECK.start(x, 1, "KRB;CLA;RDB;HLT");
        x.run(700);
        CHECK.user(x, 0, 0, 2);
        CHECK.user(x, 1, 0, 2);
        x.key(0, 1);
        x.key(1, 1);
        CHECK.start(x, 2, LOOP);
        x.halt(2);
        x.run(6);
        CHECK.user(x, 0, 0, 5);
        CHECK.user(x, 1, 0, 5);
        CHECK.look(x, 2, 4);
        CHECK.look(x, 3, 0);
        x.begin(2, 0200);
        x.run(5);
        CHECK.look(x, 2, 4);
        CHECK.look(x, 4, 128 - 16);
        CHECK.look(x, 12, 0);
        return x;
    }

    private static void blockThenQueue() {
        ShareEight x = threeWaiting(3, "CLA");
        x.run(1);
        CHECK.look(x, 12, 1);
        CHECK.look(x, 2, 2);
        CHECK.look(x, 3, 2);
        CHECK.look(x, 5, 2);
        CHECK.start(x, 3, LOOP);
        x.run(256);
        CHECK.look(x, 6, 3);
        CHECK.look(x, 2, 3);
        CHECK.look(x, 3, 1);
        CHECK.look(x, 5, 1);
        x.run(8);
        CHECK.look(x, 12, 2);
        CHECK.look(x, 2, 2);
        CHECK.look(x, 3, 3);
        CHECK.due("one that is STOPPED gives its slot", x.look(5), 0);
        x = threeWaiting(2, "CLA");
        x.run(1);
        CHECK.look(x, 2, 2);
        CHECK.look(x, 3, 2);
        CHECK.due("not the slot of one that waits for a BLOCK", x.look(5), 0);
        CHECK.user(x, 0, 9, NONE);
        CHECK.user(x, 1, 9, 1);
        x = threeWaiting(2, "DCA 50");
        x.run(1);
        CHECK.look(x, 2, 1);
        CHECK.look(x, 3, 0);
        CHECK.look(x, 5, 0);
        x = new ShareEight(2, 1, 64, 1);
        CHECK.start(x, 0, "WRB;WRB;HLT");
        x.run(257 + 1 + 8);
        CHECK.look(x, 12, 1);
        CHECK.user(x, 0, 0, 5);
        CHECK.start(x, 1, LOOP);
        x.run(1);
        CHECK.due("no slot for the QUEUE: the BLOCK", x.look(2), 4);
        CHECK.look(x, 3, 0);
        CHECK.user(x, 0, 9, 0);
    }

    private static void longestWaits() {
        ShareEight x = new ShareEight(3, 3, 64, 1);
        for (int u = 0; u < 3; u++) {
            CHECK.start(x, u, "KRB;CLA;WRB;HLT");
        }
        x.run(1000);
        x.key(1, 1);
        x.run(4);
        CHECK.look(x, 3, 1);
        x.key(2, 1);
        x.run(3);
        x.key(0, 1);
        x.run(3);
        CHECK.user(x, 0, 0, 5);
        CHECK.user(x, 2, 0, 5);
        CHECK.look(x, 3, 1);
        x.run(2);
        CHECK.look(x, 12, 1);
        CHECK.look(x, 3, 2);
        x.run(8);
        CHECK.look(x, 12, 2);
        CHECK.look(x, 3, 0);
    }

    private static void wakingInOrder() {
        ShareEight x = new ShareEight(3, 3, 1, 64);
        String source = "KRB;CLA IAC;SLEEP;HLT";
        for (int u = 0; u < 3; u++) {
            CHECK.start(x, u, source);
        }
        x.run(1000);
        x.key(2, 1);
        x.key(1, 1);
        x.key(0, 1);
        CHECK.user(x, 2, 10, 0);
        CHECK.user(x, 0, 10, 2);
        x.run(9);
        for (int u = 0; u < 3; u++) {
            CHECK.user(x, u, 0, 4);
        }
        CHECK.due("two first wakes first", x.user(2, 13) < x.user(1, 13), true);
        CHECK.due("then one", x.user(1, 13) < x.user(0, 13), true);
        x.run(16);
        for (int u = 0; u < 3; u++) {
            CHECK.user(x, u, 0, 6);
        }
    }
}
