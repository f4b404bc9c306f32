/** Each sentence of Terms 2 and of promises 1 and 7 to 21 that names a boundary case, with tests of its own. */
public final class HouseBoundsTest {
    private static final int NONE = ShareEight.NONE;
    private static final int MIN = Integer.MIN_VALUE;
    private static final int MAX = Integer.MAX_VALUE;
    private static final int STATE = 0;
    private static final int SLOT = 9;
    private static final int PLACE = 10;
    private static final int LEFT = 14;
    private static final int RUNS = 8;
    private static final String LOOP = "JMP .";
    /** What brings user 0 into each STATE, and (the last one) lets it run; and at what time it is there. */
    private static final String[] SOURCES = {"", LOOP, "KRB", "TLS;JMP .-1", "CMA;SLEEP", "WRB;HLT", "HLT", "6001", LOOP};
    private static final int[] TIMES = {0, 0, 257, 291, 258, 257, 257, 257, 257};
    private static final Check CHECK = new Check("HouseBoundsTest");

    public static void main(String[] args) {
        newNumbers();
        newObject();
        mounting();
        mountingWhileMoved();
        mounted();
        beginning();
        halting();
        haltingOne();
        pressing();
        pressingMany();
        setting();
        depositing();
        running();
        askingUsers();
        usersNumbers();
        askingHouse();
        askingWords();
        wordsThatMove();
        askingSlots();
        askingBlocks();
        askingPaper();
        comingBehind();
        wakingByNumber();
        printing();
        movingIn();
        movingOut();
        movingBlocks();
        tasksDone();
        blocksOrQueue();
        longestFirst();
        freeSlots();
        slotsOfOthers();
        slotsThatRan();
        noSlotAtAll();
        goingOut();
        firstOfQueue();
        idling();
        runningOut();
        leavingEarly();
        CHECK.finish();
    }

    /** Two users and a slot; user 0 is in a STATE, or runs. */
    private static ShareEight inState(int state) {
        ShareEight x = new ShareEight(2, 1, 64, 64);
        if (state > 0) {
            bring(x, 0, SOURCES[state]);
            x.begin(0, 0200);
        }
        if (TIMES[state] > 0) {
            x.run(TIMES[state]);
        }
        if (x.user(0, STATE) != (state == RUNS ? 1 : state)) {
            throw new IllegalStateException("user 0 isn't in state " + state);
        }
        return x;
    }

    private static void bring(ShareEight x, int u, String source) {
        if (Check.assemble(x, source) == NONE || !x.mount(u)) {
            throw new IllegalStateException("not mounted: " + source);
        }
    }

    private static void start(ShareEight x, int u, String source) {
        bring(x, u, source);
        if (!x.begin(u, 0200)) {
            throw new IllegalStateException("not begun: " + source);
        }
    }

    private static String text(ShareEight x) {
        return Check.userText(x, 0) + Check.userText(x, 1) + Check.houseText(x, 1);
    }

    private static void taskIs(ShareEight x, int task, int user, int slot) {
        CHECK.look(x, 2, task);
        CHECK.look(x, 3, user);
        CHECK.look(x, 5, slot);
    }

    private static int count(ShareEight x, boolean slots) {
        int count = 0;
        for (int i = 0; i < 10; i++) {
            if ((slots ? x.slot(i, 1) : x.user(i, STATE)) != NONE) {
                count++;
            }
        }
        return count;
    }

    private static int nearest(int n, int most) {
        return n < 1 ? 1 : n > most ? most : n;
    }

    private static void newNumbers() {
        CHECK.says("So many users (1 to 6), slots (1 to 4), ticks of a QUANTUM (1 to 64), SPEED (1 to 64); what is outside is the nearest.");
        int[] few = {MIN, -1, 0, 1, 2, 3, 4, 5, 6, 7, MAX};
        for (int n : few) {
            CHECK.due("users of " + n, count(new ShareEight(n, 2, 3, 4), false), nearest(n, 6));
            CHECK.due("slots of " + n, count(new ShareEight(2, n, 3, 4), true), nearest(n, 4));
        }
        int[] many = {MIN, -64, -1, 0, 1, 2, 63, 64, 65, 128, MAX};
        for (int n : many) {
            ShareEight x = new ShareEight(1, 1, n, 1);
            start(x, 0, LOOP);
            x.run(257);
            int quantum = nearest(n, 64);
            CHECK.due("QUANTUM of " + n, x.user(0, LEFT), quantum == 1 ? 1 : quantum - 1);
            x.run(62);
            CHECK.due("QUANTUM of " + n, x.user(0, LEFT), quantum - 63 % quantum);
            x = new ShareEight(1, 1, 64, n);
            start(x, 0, "TLS;TLS;JMP .");
            x.run(257 + nearest(n, 64));
            CHECK.due("SPEED of " + n, x.user(0, 8), 1);
            x.run(1);
            CHECK.due("SPEED of " + n, x.user(0, 8), 2);
        }
    }

    private static void newObject() {
        CHECK.says("All are EMPTY (registers and words 0), nothing on the tape, no words made.");
        ShareEight x = new ShareEight(6, 4, 1, 1);
        for (int u = 0; u < 6; u++) {
            CHECK.due("user", Check.userText(x, u), "user" + u + ": 0 0 0 0 0 0 0 0 0 -1 -1 0 0 -1 -1");
            CHECK.due("first word", x.word(u, 0), 0);
            CHECK.due("last word", x.word(u, 4095), 0);
            CHECK.due("on the DRUM", x.drum(u, 0200), 0);
        }
        CHECK.due("house", Check.houseText(x, 4), "house: 0 -1 0 -1 0 -1 0 0 0 0 0 0 0"
                + " slot0: -1 0 0 slot1: -1 0 0 slot2: -1 0 0 slot3: -1 0 0");
        CHECK.due("no word made", x.made(0200), NONE);
        CHECK.due("mounted without words", x.mount(0), true);
        CHECK.due("nothing on the tape", x.assemble(), 0);
    }

    private static void mounting() {
        CHECK.says("A user that is EMPTY, STOPPED or WRONG, no words of which are just being moved, gets the words made");
        for (int state = 0; state <= RUNS; state++) {
            ShareEight x = inState(state);
            Check.assemble(x, "5");
            String before = text(x);
            boolean may = state == 0 || state == 6 || state == 7;
            CHECK.due("mount in state " + state, x.mount(0), may);
            if (may) {
                CHECK.user(x, 0, STATE, 6);
                CHECK.due("the word", x.word(0, 0200), 5);
            } else {
                CHECK.due("state " + state + " behind a refused mount", text(x), before);
                CHECK.due("its word", x.word(0, 0200) == 5, false);
            }
        }
        CHECK.says("False without such.");
        ShareEight x = inState(0);
        int[] nobody = {MIN, -1, 2, 6, MAX};
        String before = text(x);
        for (int u : nobody) {
            CHECK.due("mount(" + u + ")", x.mount(u), false);
        }
        CHECK.due("behind them", text(x), before);
        CHECK.due("mount(1)", x.mount(1), true);
    }

    private static void mountingWhileMoved() {
        CHECK.says("no words of which are just being moved");
        ShareEight x = inState(1);
        x.run(1);
        x.halt(0);
        taskIs(x, 2, 0, 0);
        CHECK.due("mount, no word moved yet", x.mount(0), false);
        CHECK.due("deposit, no word moved yet", x.deposit(0, 4095, 1), false);
        CHECK.due("mount of the other one", x.mount(1), true);
        CHECK.due("deposit for the other one", x.deposit(1, 4095, 1), true);
        x.run(255);
        CHECK.look(x, 4, 4080);
        CHECK.due("mount with sixteen words to go", x.mount(0), false);
        CHECK.due("deposit with sixteen words to go", x.deposit(0, 0, 1), false);
        x.run(1);
        CHECK.due("deposit when they are there", x.deposit(0, 0, 1), true);
        CHECK.due("in the core", x.core(0, 0), 1);
        x.begin(1, 0200);
        x.run(1);
        taskIs(x, 1, 0, 0);
        CHECK.due("mount of one that goes out", x.mount(0), false);
        CHECK.due("deposit for one that goes out", x.deposit(0, 1, 1), false);
        x.run(255);
        CHECK.due("mount with sixteen words to go", x.mount(0), false);
        CHECK.due("deposit with sixteen words to go", x.deposit(0, 1, 1), false);
        x.run(1);
        CHECK.due("deposit when it is out", x.deposit(0, 1, 2), true);
        CHECK.due("on the DRUM", x.drum(0, 1), 2);
        CHECK.due("mount when it is out", x.mount(0), true);
    }

    private static void mounted() {
        CHECK.says("all others 0, registers 0, PC 0200; it is STOPPED, has no slot (the one that it had is nobody's).");
        ShareEight x = new ShareEight(1, 2, 64, 64);
        x.key(0, 1);
        x.set(0, 7);
        start(x, 0, "TAD (111;TLS;TLS;DCA 50;TAD (3;WRB;CMA;MQL;STL;TAD (5;6001");
        x.run(300);
        for (int i = 0; i < 16; i++) {
            x.key(0, 1);
        }
        CHECK.due("before", Check.userText(x, 0), "user0: 7 138 5 1 4095 10 16 1 1 0 -1 1 7 -1 -1");
        CHECK.slotIs(x, 0, 0, 1, 1);
        Check.assemble(x, "*7777;5");
        CHECK.due("mount", x.mount(0), true);
        CHECK.due("behind", Check.userText(x, 0), "user0: 6 128 0 0 0 10 16 1 1 -1 -1 1 7 -1 -1");
        CHECK.slotIs(x, 0, NONE, 0, 0);
        CHECK.due("word 0", x.word(0, 0), 0);
        CHECK.due("word 050", x.word(0, 050), 0);
        CHECK.due("word 0200", x.word(0, 0200), 0);
        CHECK.due("word 07777", x.word(0, 07777), 5);
        CHECK.says("KEYBOARD, OUT, PAPER, FILE, SWITCHES, counts stay.");
        CHECK.due("FILE", x.block(0, 3, 050), 0111);
        CHECK.due("PAPER", x.paper(0, 0), 0111);
        CHECK.user(x, 0, 6, 16);
        CHECK.user(x, 0, 7, 1);
        CHECK.user(x, 0, 11, 1);
        CHECK.user(x, 0, 12, 7);
        CHECK.look(x, 10, 10);
        CHECK.look(x, 12, 1);
    }

    private static void beginning() {
        CHECK.says("A user that is STOPPED or WRONG is READY, at a PC. False without such a user or word.");
        for (int state = 0; state <= RUNS; state++) {
            ShareEight x = inState(state);
            String before = text(x);
            boolean may = state == 6 || state == 7;
            CHECK.due("begin in state " + state, x.begin(0, 0300), may);
            if (may) {
                CHECK.user(x, 0, STATE, 1);
                CHECK.user(x, 0, 1, 0300);
                CHECK.user(x, 0, PLACE, 0);
            } else {
                CHECK.due("state " + state + " behind a refused begin", text(x), before);
            }
        }
        ShareEight x = inState(6);
        String before = text(x);
        int[] nobody = {MIN, -1, 2, MAX};
        for (int u : nobody) {
            CHECK.due("begin(" + u + ", 0)", x.begin(u, 0), false);
        }
        int[] nowhere = {MIN, -4096, -1, 4096, MAX};
        for (int pc : nowhere) {
            CHECK.due("begin(0, " + pc + ")", x.begin(0, pc), false);
        }
        CHECK.due("behind them", text(x), before);
        CHECK.due("begin(0, 4095)", x.begin(0, 4095), true);
        CHECK.user(x, 0, 1, 4095);
        x.halt(0);
        CHECK.due("begin(0, 0)", x.begin(0, 0), true);
        CHECK.user(x, 0, 1, 0);
    }

    private static void halting() {
        CHECK.says("A user that is READY, SLEEPS, or waits for a KEY or room, is STOPPED");
        for (int state = 0; state <= RUNS; state++) {
            ShareEight x = inState(state);
            String before = text(x);
            boolean may = state >= 1 && state <= 4 || state == RUNS;
            CHECK.due("halt in state " + state, x.halt(0), may);
            if (may) {
                CHECK.user(x, 0, STATE, 6);
                CHECK.user(x, 0, PLACE, NONE);
                CHECK.user(x, 0, 13, NONE);
                CHECK.user(x, 0, LEFT, NONE);
                CHECK.look(x, 9, 0);
                x.key(0, 65);
                x.run(1000);
                CHECK.user(x, 0, STATE, 6);
            } else {
                CHECK.due("state " + state + " behind a refused halt", text(x), before);
            }
        }
        int[] nobody = {MIN, -1, 2, MAX};
        for (int u : nobody) {
            CHECK.due("halt(" + u + ")", inState(1).halt(u), false);
        }
    }

    private static void haltingOne() {
        CHECK.says("(it leaves the QUEUE, or runs no more: its slot has RUN then).");
        ShareEight x = inState(RUNS);
        CHECK.slotIs(x, 0, 0, 0, 0);
        CHECK.look(x, 1, 0);
        x.halt(0);
        CHECK.look(x, 1, NONE);
        CHECK.slotIs(x, 0, 0, 0, 1);
        x = inState(6);
        x.mount(0);
        x.begin(0, 0200);
        x.run(1);
        start(x, 1, LOOP);
        CHECK.look(x, 9, 2);
        x.halt(0);
        CHECK.user(x, 1, PLACE, 0);
        CHECK.look(x, 9, 1);
        x.run(255);
        CHECK.user(x, 0, SLOT, NONE);
        x.run(1);
        CHECK.due("its slot has not RUN: it went to another at once", x.look(7), 0);
        taskIs(x, 2, 1, 0);
        CHECK.look(x, 6, 2);
        x = waitingWithSlot();
        CHECK.due("one of the QUEUE that has a slot", x.halt(1), true);
        CHECK.slotIs(x, 1, 1, 0, 0);
    }

    /** User 0 runs in slot 0, which has RUN; 1 has slot 1 and hasn't run; 2 and 3 have none. The time is 514. */
    private static ShareEight waitingWithSlot() {
        ShareEight x = new ShareEight(4, 2, 64, 1);
        start(x, 0, LOOP);
        x.run(257);
        start(x, 1, LOOP);
        x.run(257);
        return x;
    }

    private static void pressing() {
        CHECK.says("A key (0 .. 127) for a user, whatever its STATE: true (it is READY if it waits for one)");
        for (int state = 0; state <= RUNS; state++) {
            ShareEight x = inState(state);
            CHECK.due("key in state " + state, x.key(0, 5), true);
            CHECK.user(x, 0, STATE, state == 2 || state == RUNS ? 1 : state);
            CHECK.user(x, 0, 6, 1);
            CHECK.user(x, 0, PLACE, state == 1 || state == 2 ? 0 : NONE);
        }
        CHECK.says("false without such a user or key");
        ShareEight x = inState(2);
        String before = text(x);
        int[] nobody = {MIN, -1, 2, MAX};
        for (int u : nobody) {
            CHECK.due("key(" + u + ", 5)", x.key(u, 5), false);
        }
        int[] noKey = {MIN, -1, 128, 256, MAX};
        for (int c : noKey) {
            CHECK.due("key(0, " + c + ")", x.key(0, c), false);
        }
        CHECK.due("behind them", text(x), before);
        CHECK.due("key(0, 0)", x.key(0, 0), true);
        CHECK.due("key(0, 127)", x.key(0, 127), true);
        x.run(1);
        CHECK.user(x, 0, 2, 0200);
    }

    private static void pressingMany() {
        CHECK.says("or if there are 16 (it is counted as lost).");
        ShareEight x = new ShareEight(2, 1, 64, 64);
        for (int i = 0; i < 16; i++) {
            CHECK.user(x, 0, 6, i);
            CHECK.due("key " + i, x.key(0, 100 + i), true);
        }
        for (int i = 1; i <= 3; i++) {
            CHECK.due("key beyond", x.key(0, 5), false);
            CHECK.user(x, 0, 6, 16);
            CHECK.user(x, 0, 11, i);
        }
        CHECK.due("none that is no key", x.key(0, 128), false);
        CHECK.user(x, 0, 11, 3);
        CHECK.due("the other one's", x.key(1, 5), true);
        CHECK.user(x, 1, 11, 0);
        start(x, 0, "KRB;JMP .-1");
        x.run(256);
        for (int i = 0; i < 16; i++) {
            x.run(1);
            CHECK.user(x, 0, 2, 0200 + 100 + i);
            x.run(1);
        }
        CHECK.user(x, 0, 6, 0);
        x.run(1);
        CHECK.user(x, 0, STATE, 2);
        CHECK.says("a KEYBOARD (a row of at most 16 keys)");
        for (int i = 0; i < 16; i++) {
            CHECK.due("key " + i, x.key(0, i), true);
        }
        x.run(1);
        CHECK.due("one went, one more comes", x.key(0, 16), true);
        CHECK.due("and no more", x.key(0, 17), false);
        for (int i = 1; i <= 16; i++) {
            x.run(2);
            CHECK.user(x, 0, 2, 0200 + i);
        }
    }

    private static void setting() {
        CHECK.says("A user's SWITCHES become w. False without such a user or word.");
        for (int state = 0; state <= RUNS; state++) {
            ShareEight x = inState(state);
            CHECK.due("set in state " + state, x.set(0, 4095), true);
            CHECK.user(x, 0, 12, 4095);
            CHECK.user(x, 0, STATE, state == RUNS ? 1 : state);
        }
        ShareEight x = inState(0);
        x.set(0, 5);
        int[] nobody = {MIN, -1, 2, MAX};
        for (int u : nobody) {
            CHECK.due("set(" + u + ", 0)", x.set(u, 0), false);
        }
        int[] noWord = {MIN, -1, 4096, MAX};
        for (int w : noWord) {
            CHECK.due("set(0, " + w + ")", x.set(0, w), false);
        }
        CHECK.user(x, 0, 12, 5);
        CHECK.due("set(0, 0)", x.set(0, 0), true);
        CHECK.user(x, 0, 12, 0);
    }

    private static void depositing() {
        CHECK.says("Word a of a user that is EMPTY, STOPPED or WRONG, no words of which are just being moved, becomes v. False without such.");
        for (int state = 0; state <= RUNS; state++) {
            ShareEight x = inState(state);
            boolean may = state == 0 || state == 6 || state == 7;
            CHECK.due("deposit in state " + state, x.deposit(0, 0300, 5), may);
            CHECK.due("word", x.word(0, 0300), may ? 5 : 0);
            CHECK.due("in the core", x.core(0, 0300), may && state > 0 ? 5 : 0);
            CHECK.due("on the DRUM", x.drum(0, 0300), state == 0 ? 5 : 0);
            CHECK.due("CHANGED", x.slot(0, 1), may && state > 0 ? 1 : 0);
            CHECK.due("the other one's", x.word(1, 0300), 0);
        }
        ShareEight x = inState(6);
        String before = text(x);
        int[] nobody = {MIN, -1, 2, MAX};
        for (int u : nobody) {
            CHECK.due("deposit(" + u + ", 0, 5)", x.deposit(u, 0, 5), false);
        }
        int[] noWord = {MIN, -1, 4096, MAX};
        for (int n : noWord) {
            CHECK.due("deposit(0, " + n + ", 5)", x.deposit(0, n, 5), false);
            CHECK.due("deposit(0, 5, " + n + ")", x.deposit(0, 5, n), false);
        }
        CHECK.due("behind them", text(x), before);
        CHECK.due("first word", x.deposit(0, 0, 4095), true);
        CHECK.due("last word", x.deposit(0, 4095, 0), true);
        CHECK.due("first word", x.word(0, 0), 4095);
    }

    private static void running() {
        CHECK.says("n ticks (1 .. 20000; NONE for another n): how many instructions were done.");
        ShareEight x = inState(RUNS);
        String before = text(x);
        int[] others = {MIN, -20000, -1, 0, 20001, MAX};
        for (int n : others) {
            CHECK.due("run(" + n + ")", x.run(n), NONE);
        }
        CHECK.due("behind them", text(x), before);
        CHECK.due("run(1)", x.run(1), 1);
        CHECK.look(x, 0, 258);
        CHECK.due("run(20000)", x.run(20000), 20000);
        CHECK.look(x, 0, 20258);
        CHECK.look(x, 10, 20002);
        CHECK.due("none", inState(0).run(20000), 0);
    }

    private static void askingUsers() {
        CHECK.says("NONE for others.");
        ShareEight x = inState(RUNS);
        int[] nobody = {MIN, -1, 2, 6, MAX};
        for (int u : nobody) {
            for (int what = -1; what <= 15; what++) {
                CHECK.due("user(" + u + ", " + what + ")", x.user(u, what), NONE);
            }
        }
        int[] nothing = {MIN, -1, 15, 16, MAX};
        for (int what : nothing) {
            CHECK.due("user(0, " + what + ")", x.user(0, what), NONE);
        }
        CHECK.user(x, 0, LEFT, 63);
        CHECK.user(x, 0, STATE, 1);
    }

    private static void usersNumbers() {
        CHECK.says("5 instructions done (a BLOCK when it is done; not one that waits, or is WRONG)");
        int[] done = {0, 0, 0, 34, 2, 0, 1, 0, 1};
        for (int state = 0; state <= RUNS; state++) {
            ShareEight x = inState(state);
            CHECK.user(x, 0, 5, done[state]);
            CHECK.look(x, 10, done[state]);
        }
        ShareEight x = inState(5);
        CHECK.due("till its last words", x.run(8), 0);
        CHECK.due("the BLOCK, and the HLT", x.run(1), 2);
        CHECK.user(x, 0, 5, 2);
        CHECK.says("9 its slot (NONE), 10 its place in the QUEUE (from 0 on; NONE)");
        int[] slots = {NONE, NONE, 0, 0, 0, 0, 0, 0, 0};
        for (int state = 0; state <= RUNS; state++) {
            x = inState(state);
            CHECK.user(x, 0, SLOT, slots[state]);
            CHECK.user(x, 0, PLACE, state == 1 ? 0 : NONE);
        }
        CHECK.says("13 at what time it wakes (NONE unless it SLEEPS), 14 the ticks that it has left (NONE unless it runs).");
        for (int state = 0; state <= RUNS; state++) {
            x = inState(state);
            CHECK.user(x, 0, 13, state == 4 ? 258 + 16 * 4095 : NONE);
            CHECK.user(x, 0, LEFT, state == RUNS ? 63 : NONE);
        }
    }

    private static void askingHouse() {
        CHECK.says("2 the CHANNEL's task: 0 none, 1 out, 2 In, 3 a BLOCK read, 4 written, 3 its user (NONE), 4 words moved (0 without a task), 5 the slot (NONE)");
        ShareEight x = inState(1);
        taskIs(x, 0, NONE, NONE);
        CHECK.look(x, 4, 0);
        x.run(1);
        taskIs(x, 2, 0, 0);
        CHECK.look(x, 4, 0);
        x.run(255);
        taskIs(x, 2, 0, 0);
        CHECK.look(x, 4, 4080);
        x.run(1);
        taskIs(x, 0, NONE, NONE);
        CHECK.look(x, 4, 0);
        int[] nothing = {MIN, -1, 13, 14, MAX};
        CHECK.says("11 bytes on the tape, 12 BLOCKS that were done. NONE for others.");
        for (int what : nothing) {
            CHECK.look(x, what, NONE);
        }
        CHECK.look(x, 11, 0);
        CHECK.look(x, 12, 0);
        CHECK.look(x, 0, 257);
        CHECK.says("1 who runs (NONE)");
        for (int state = 0; state <= RUNS; state++) {
            CHECK.due("who runs in state " + state, inState(state).look(1), state == RUNS ? 0 : NONE);
        }
    }

    private static void askingWords() {
        ShareEight x = new ShareEight(6, 4, 64, 64);
        x.deposit(5, 4095, 4095);
        x.deposit(0, 0, 4094);
        int[] noWord = {MIN, -4096, -1, 4096, 8191, MAX};
        int[] noUser = {MIN, -1, 6, 7, MAX};
        int[] noSlot = {MIN, -1, 4, 5, MAX};
        CHECK.says("Word a of a user, as it is for it (while it comes in: on the DRUM). NONE without such.");
        CHECK.due("last word", x.word(5, 4095), 4095);
        CHECK.due("first word", x.word(0, 0), 4094);
        for (int a : noWord) {
            CHECK.due("word(0, " + a + ")", x.word(0, a), NONE);
        }
        for (int u : noUser) {
            CHECK.due("word(" + u + ", 0)", x.word(u, 0), NONE);
        }
        CHECK.says("Word a of a user on the DRUM, as it lies there; NONE without such.");
        CHECK.due("last word", x.drum(5, 4095), 4095);
        CHECK.due("first word", x.drum(0, 0), 4094);
        for (int a : noWord) {
            CHECK.due("drum(0, " + a + ")", x.drum(0, a), NONE);
        }
        for (int u : noUser) {
            CHECK.due("drum(" + u + ", 0)", x.drum(u, 0), NONE);
        }
        CHECK.says("Word a of a slot, whosever it is; NONE without such.");
        CHECK.due("last word", x.core(3, 4095), 0);
        CHECK.due("first word", x.core(0, 0), 0);
        for (int a : noWord) {
            CHECK.due("core(0, " + a + ")", x.core(0, a), NONE);
        }
        for (int s : noSlot) {
            CHECK.due("core(" + s + ", 0)", x.core(s, 0), NONE);
        }
    }

    private static void wordsThatMove() {
        CHECK.says("A user's words are in its slot, if it has one, else on the DRUM.");
        ShareEight x = new ShareEight(2, 1, 64, 64);
        bring(x, 1, "*7777;5;*200;JMP .");
        start(x, 0, "ISZ 50;HLT;*50;7;*7777;6");
        x.run(258);
        x.begin(1, 0200);
        x.run(1);
        taskIs(x, 1, 0, 0);
        CHECK.due("one that goes out: in the core", x.word(0, 050), 010);
        CHECK.due("not yet on the DRUM", x.drum(0, 050), 7);
        x.run(256);
        taskIs(x, 2, 1, 0);
        CHECK.due("one that is out: on the DRUM", x.word(0, 050), 010);
        CHECK.says("as it is for it (while it comes in: on the DRUM)");
        x.run(255);
        CHECK.due("one that comes in: on the DRUM", x.word(1, 07777), 5);
        CHECK.due("the core has another one's", x.core(0, 07777), 6);
        x.run(1);
        CHECK.due("one that is in", x.word(1, 07777), 5);
        CHECK.due("in the core", x.core(0, 07777), 5);
        x.halt(1);
        x.mount(1);
        CHECK.due("nobody's word", x.core(0, 07777), 5);
    }

    private static void askingSlots() {
        CHECK.says("0 whose it is (NONE; also one to which a user comes in), 1 whether it is CHANGED, 2 whether it has RUN (0, both, of nobody's). NONE for others.");
        ShareEight x = new ShareEight(1, 4, 64, 64);
        int[] noSlot = {MIN, -1, 4, MAX};
        int[] nothing = {MIN, -1, 3, MAX};
        for (int s : noSlot) {
            for (int what = -1; what <= 3; what++) {
                CHECK.due("slot(" + s + ", " + what + ")", x.slot(s, what), NONE);
            }
        }
        for (int what : nothing) {
            CHECK.due("slot(0, " + what + ")", x.slot(0, what), NONE);
        }
        CHECK.slotIs(x, 3, NONE, 0, 0);
        start(x, 0, "DCA 50;HLT");
        x.run(256);
        CHECK.slotIs(x, 0, NONE, 0, 0);
        x.run(1);
        CHECK.slotIs(x, 0, 0, 1, 0);
        x.run(1);
        CHECK.slotIs(x, 0, 0, 1, 1);
        x.mount(0);
        CHECK.slotIs(x, 0, NONE, 0, 0);
    }

    private static void askingBlocks() {
        CHECK.says("a FILE of 8 BLOCKS of 128 words");
        CHECK.due("first", new ShareEight(6, 4, 64, 64).block(0, 0, 0), 0);
        CHECK.due("last", new ShareEight(6, 4, 64, 64).block(5, 7, 127), 0);
        CHECK.due("a ninth BLOCK", new ShareEight(6, 4, 64, 64).block(5, 8, 0), NONE);
        CHECK.due("a 129th word", new ShareEight(6, 4, 64, 64).block(5, 7, 128), NONE);
        CHECK.says("Word i of BLOCK b of a user's FILE; NONE without such.");
        ShareEight x = new ShareEight(6, 4, 64, 64);
        int[] noUser = {MIN, -1, 6, MAX};
        int[] noBlock = {MIN, -1, 8, MAX};
        int[] noWord = {MIN, -1, 128, 1023, MAX};
        for (int u : noUser) {
            CHECK.due("block(" + u + ", 0, 0)", x.block(u, 0, 0), NONE);
        }
        for (int b : noBlock) {
            CHECK.due("block(0, " + b + ", 0)", x.block(0, b, 0), NONE);
        }
        for (int i : noWord) {
            CHECK.due("block(0, 0, " + i + ")", x.block(0, 0, i), NONE);
            CHECK.due("block(5, 7, " + i + ")", x.block(5, 7, i), NONE);
        }
        CHECK.due("first", x.block(0, 0, 0), 0);
        CHECK.due("last", x.block(5, 7, 127), 0);
    }

    private static void askingPaper() {
        CHECK.says("Letter i on a user's PAPER (the first 500 are kept); NONE without such.");
        ShareEight x = new ShareEight(2, 1, 64, 1);
        int[] nobody = {MIN, -1, 2, MAX};
        start(x, 0, "TLS;IAC;JMP 200");
        x.run(257);
        CHECK.due("none yet", x.paper(0, 0), NONE);
        x.run(1);
        for (int u : nobody) {
            CHECK.due("paper(" + u + ", 0)", x.paper(u, 0), NONE);
        }
        CHECK.due("letter 0", x.paper(0, 0), 0);
        CHECK.due("no letter 1", x.paper(0, 1), NONE);
        x.run(3 * 498);
        CHECK.user(x, 0, 8, 499);
        CHECK.due("letter 498", x.paper(0, 498), 498 % 128);
        CHECK.due("no letter 499", x.paper(0, 499), NONE);
        x.run(3);
        CHECK.due("letter 499", x.paper(0, 499), 499 % 128);
        CHECK.says("8 letters on its PAPER (also lost ones)");
        CHECK.user(x, 0, 8, 500);
        x.run(3);
        CHECK.user(x, 0, 8, 501);
        CHECK.due("letter 499 stays", x.paper(0, 499), 499 % 128);
        CHECK.due("letter 0 stays", x.paper(0, 0), 0);
        int[] none = {MIN, -1, 500, 501, MAX};
        for (int i : none) {
            CHECK.due("paper(0, " + i + ")", x.paper(0, i), NONE);
        }
        x.run(3000);
        CHECK.user(x, 0, 8, 1501);
        CHECK.due("the other one's", x.paper(1, 0), NONE);
    }

    /** Users 0 and 1 loop: one runs, the other is first in the QUEUE. User 2 does a source. */
    private static ShareEight threeIn(String source) {
        ShareEight x = new ShareEight(3, 3, 64, 64);
        start(x, 0, LOOP);
        start(x, 1, LOOP);
        start(x, 2, source);
        x.run(1000);
        return x;
    }

    private static void stepTill(ShareEight x, int state) {
        for (int i = 0; i < 150 && x.user(2, STATE) != state; i++) {
            x.run(1);
        }
        CHECK.user(x, 2, STATE, state);
    }

    private static void comingBehind() {
        CHECK.says("READY ones stand in the QUEUE; one that becomes READY comes behind it.");
        ShareEight x = threeIn("HLT");
        CHECK.look(x, 9, 1);
        x.begin(2, 0200);
        CHECK.due("by begin", x.user(2, PLACE), 1);
        x = threeIn("KRB;JMP .-1");
        x.key(2, 5);
        CHECK.due("by a key", x.user(2, PLACE), 1);
        x = threeIn("TLS;JMP .-1");
        stepTill(x, 3);
        stepTill(x, 1);
        CHECK.due("by room", x.user(2, PLACE), 1);
        x = threeIn("IAC;BSW;SLEEP;JMP .");
        CHECK.user(x, 2, STATE, 4);
        x.run(x.user(2, 13) - 1 - x.look(0));
        CHECK.user(x, 2, STATE, 4);
        x.run(1);
        CHECK.due("by its time", x.user(2, PLACE), 1);
        x = threeIn("WRB;JMP .-1");
        stepTill(x, 5);
        stepTill(x, 1);
        CHECK.due("by a BLOCK", x.user(2, PLACE), 1);
        x = threeIn(LOOP);
        CHECK.look(x, 9, 2);
        int running = x.look(1);
        int last = x.user((running + 1) % 3, PLACE) == 1 ? (running + 1) % 3 : (running + 2) % 3;
        x.run(x.user(running, LEFT));
        CHECK.due("by its QUANTUM's end", x.user(running, PLACE), 2);
        CHECK.due("behind the one that was last", x.user(last, PLACE), 1);
    }

    private static void wakingByNumber() {
        CHECK.says("2 user by user, from 0 on: if it SLEEPS and its time has come, it is READY");
        ShareEight x = new ShareEight(2, 2, 64, 64);
        start(x, 0, "KRB;CLA;TAD (1;SLEEP;HLT");
        start(x, 1, "KRB;CLA;TAD (2;SLEEP;HLT");
        x.run(600);
        x.key(1, 1);
        x.run(16);
        x.key(0, 1);
        x.run(4);
        CHECK.user(x, 0, 13, 636);
        CHECK.user(x, 1, 13, 636);
        CHECK.due("asleep", x.run(15), 0);
        CHECK.user(x, 0, STATE, 4);
        CHECK.user(x, 1, STATE, 4);
        CHECK.due("awake", x.run(1), 1);
        CHECK.user(x, 0, STATE, 6);
        CHECK.user(x, 1, STATE, 1);
        CHECK.user(x, 1, PLACE, 0);
    }

    private static void printing() {
        CHECK.says("the time is at least that at which it may print: the first one goes to the PAPER, and it may print again SPEED ticks later (at first at once)");
        int[] speeds = {1, 2, 3, 63, 64};
        for (int speed : speeds) {
            ShareEight x = new ShareEight(1, 1, 64, speed);
            start(x, 0, "TLS;IAC;TLS;IAC;TLS;KRB;TLS;JMP .");
            x.run(257);
            CHECK.user(x, 0, 7, 1);
            CHECK.user(x, 0, 8, 0);
            x.run(1);
            CHECK.user(x, 0, 8, 1);
            CHECK.user(x, 0, 7, 0);
            if (speed > 2) {
                x.run(speed - 1);
                CHECK.user(x, 0, 8, 1);
                x.run(1);
                CHECK.user(x, 0, 8, 2);
                x.run(speed - 1);
                CHECK.user(x, 0, 8, 2);
                x.run(1);
            } else {
                x.run(2);
                CHECK.user(x, 0, 8, 2);
                x.run(2);
            }
            CHECK.user(x, 0, 8, 3);
            CHECK.due("the letters' order", x.paper(0, 2), 2);
            x.run(200);
            x.key(0, 9);
            x.run(2);
            CHECK.user(x, 0, 7, 1);
            x.run(1);
            CHECK.due("at once when its time is long gone", x.user(0, 8), 4);
        }
        CHECK.says("an OUT (a row of at most 16 letters)");
        ShareEight x = inState(3);
        CHECK.user(x, 0, 7, 16);
        CHECK.says("if it waits for room it is READY.");
        x.run(258 + 64 - 1 - 291);
        CHECK.user(x, 0, STATE, 3);
        CHECK.user(x, 0, 8, 1);
        CHECK.due("its time has come", x.run(1), 1);
        CHECK.user(x, 0, STATE, 1);
        CHECK.user(x, 0, 8, 2);
        CHECK.user(x, 0, 7, 16);
    }

    private static void movingIn() {
        CHECK.says("3 the CHANNEL, if it has a task, moves 16 words (from the first one on); when all are moved the task is done.");
        ShareEight x = new ShareEight(1, 1, 64, 64);
        bring(x, 0, "*0;1;*17;2;3;*7757;4;5;*7777;6");
        x.begin(0, 0);
        x.run(1);
        CHECK.due("none in the first tick", x.core(0, 0), 0);
        x.run(1);
        CHECK.due("word 0", x.core(0, 0), 1);
        CHECK.due("word 15", x.core(0, 017), 2);
        CHECK.due("word 16", x.core(0, 020), 0);
        CHECK.look(x, 4, 16);
        x.run(1);
        CHECK.due("word 16", x.core(0, 020), 3);
        x.run(253);
        CHECK.due("word 4079", x.core(0, 07757), 4);
        CHECK.due("word 4080", x.core(0, 07760), 0);
        CHECK.look(x, 4, 4080);
        CHECK.look(x, 6, 0);
        x.run(1);
        CHECK.due("word 4080", x.core(0, 07760), 5);
        CHECK.due("word 4095", x.core(0, 07777), 6);
        CHECK.look(x, 6, 1);
        CHECK.says("In: the 4096 words of a user come to a slot; done: it has the slot, which isn't CHANGED, and hasn't RUN.");
        x = new ShareEight(1, 1, 64, 64);
        start(x, 0, LOOP);
        x.run(10);
        x.halt(0);
        x.run(246);
        CHECK.slotIs(x, 0, NONE, 0, 0);
        CHECK.user(x, 0, SLOT, NONE);
        x.run(1);
        CHECK.slotIs(x, 0, 0, 0, 0);
        CHECK.user(x, 0, SLOT, 0);
        CHECK.user(x, 0, STATE, 6);
    }

    private static void movingOut() {
        CHECK.says("out: the 4096 words of a slot go to the DRUM; done: the slot is nobody's.");
        ShareEight x = new ShareEight(2, 1, 64, 64);
        start(x, 0, "DCA 50;HLT;*0;0");
        x.run(258);
        int[] places = {0, 017, 020, 07757, 07760, 07777};
        for (int place : places) {
            x.deposit(0, place, place + 1 & 07777 | 1);
        }
        start(x, 1, LOOP);
        x.run(1);
        taskIs(x, 1, 0, 0);
        CHECK.due("none in the first tick", x.drum(0, 0), 0);
        x.run(1);
        CHECK.due("word 0", x.drum(0, 0), 1);
        CHECK.due("word 15", x.drum(0, 017), 021);
        CHECK.due("word 16", x.drum(0, 020), 0);
        x.run(254);
        CHECK.due("word 4079", x.drum(0, 07757), 07761);
        CHECK.due("word 4080", x.drum(0, 07760), 0);
        CHECK.slotIs(x, 0, 0, 1, 1);
        CHECK.look(x, 7, 0);
        x.halt(1);
        x.run(1);
        CHECK.due("word 4080", x.drum(0, 07760), 07761);
        CHECK.due("word 4095", x.drum(0, 07777), 1);
        CHECK.look(x, 7, 1);
        taskIs(x, 0, NONE, NONE);
        CHECK.slotIs(x, 0, NONE, 0, 0);
        CHECK.user(x, 0, SLOT, NONE);
    }

    private static void movingBlocks() {
        CHECK.says("A BLOCK: 128 words between core and FILE (section 3): done: that user is READY, and its slot has RUN.");
        ShareEight x = new ShareEight(1, 1, 64, 64);
        start(x, 0, "TAD (400;MQL;WRB;JMP .;*400;1;*417;2;3;*557;4;5;*577;6;7");
        x.run(260);
        taskIs(x, 4, 0, 0);
        CHECK.look(x, 4, 0);
        CHECK.due("none in the first tick", x.block(0, 0, 0), 0);
        x.run(1);
        CHECK.look(x, 4, 16);
        CHECK.due("word 0", x.block(0, 0, 0), 1);
        CHECK.due("word 15", x.block(0, 0, 15), 2);
        CHECK.due("word 16", x.block(0, 0, 16), 0);
        x.run(6);
        CHECK.look(x, 4, 112);
        CHECK.due("word 111", x.block(0, 0, 111), 4);
        CHECK.due("word 112", x.block(0, 0, 112), 0);
        CHECK.look(x, 12, 0);
        CHECK.user(x, 0, STATE, 5);
        x.run(1);
        CHECK.look(x, 12, 1);
        CHECK.due("word 112", x.block(0, 0, 112), 5);
        CHECK.due("word 127", x.block(0, 0, 127), 6);
        CHECK.due("no word beyond", x.block(0, 1, 0), 0);
        CHECK.user(x, 0, STATE, 1);
        CHECK.slotIs(x, 0, 0, 0, 1);
    }

    private static void tasksDone() {
        CHECK.says("4 if the CHANNEL has none, a task is looked for.");
        ShareEight x = new ShareEight(3, 3, 64, 64);
        for (int u = 0; u < 3; u++) {
            start(x, u, LOOP);
        }
        x.run(1);
        taskIs(x, 2, 0, 0);
        x.run(255);
        taskIs(x, 2, 0, 0);
        x.run(1);
        taskIs(x, 2, 1, 1);
        CHECK.look(x, 4, 0);
        x.run(256);
        taskIs(x, 2, 2, 2);
        x.run(256);
        taskIs(x, 0, NONE, NONE);
        CHECK.look(x, 6, 3);
    }

    /** Users 0 and 1 wait for a BLOCK, that of 0 just begun; users 2 and 3 are mounted. Of the three slots one is nobody's. */
    private static ShareEight twoBlocks() {
        ShareEight x = new ShareEight(4, 3, 64, 64);
        start(x, 0, "KRB;WRB;JMP .");
        start(x, 1, "KRB;WRB;JMP .");
        bring(x, 2, LOOP);
        x.mount(3);
        x.run(600);
        x.key(0, 0);
        x.key(1, 0);
        x.run(4);
        CHECK.user(x, 0, STATE, 5);
        CHECK.user(x, 1, STATE, 5);
        taskIs(x, 4, 0, 0);
        return x;
    }

    private static void blocksOrQueue() {
        CHECK.says("LOOKED FOR: BLOCKS, then what the QUEUE wants; the other way round, if the task that was done last was a BLOCK.");
        ShareEight x = new ShareEight(2, 2, 64, 64);
        start(x, 0, "WRB;JMP .");
        x.run(257);
        start(x, 1, LOOP);
        x.run(1);
        taskIs(x, 4, 0, 0);
        x.run(8);
        taskIs(x, 2, 1, 1);
        x = twoBlocks();
        x.begin(2, 0200);
        x.run(6);
        CHECK.look(x, 12, 0);
        x.run(1);
        CHECK.look(x, 12, 1);
        taskIs(x, 2, 2, 2);
        x.begin(3, 0200);
        x.run(255);
        taskIs(x, 2, 2, 2);
        x.run(1);
        taskIs(x, 4, 1, 1);
        x.run(7);
        taskIs(x, 4, 1, 1);
        x.run(1);
        CHECK.look(x, 12, 2);
        CHECK.look(x, 2, 2);
        CHECK.look(x, 3, 3);
        x = twoBlocks();
        x.run(7);
        CHECK.look(x, 12, 1);
        taskIs(x, 4, 1, 1);
    }

    private static void longestFirst() {
        CHECK.says("BLOCKS: of users that wait for one, the one that has done so longest.");
        int[][] orders = {{0, 1, 2}, {1, 2, 0}, {2, 1, 0}, {1, 0, 2}};
        for (int[] order : orders) {
            ShareEight x = new ShareEight(3, 3, 64, 64);
            for (int u = 0; u < 3; u++) {
                start(x, u, "KRB;WRB;JMP .");
            }
            x.run(1000);
            for (int u : order) {
                x.key(u, 0);
            }
            x.run(6);
            for (int i = 0; i < 3; i++) {
                taskIs(x, 4, order[i], order[i]);
                x.run(i == 0 ? 5 : 8);
            }
            CHECK.look(x, 12, 3);
        }
    }

    private static void freeSlots() {
        CHECK.says("the first of it that has no slot: if there is a slot that is nobody's: In, to the least one.");
        ShareEight x = new ShareEight(6, 4, 64, 64);
        for (int u = 0; u < 4; u++) {
            start(x, u, u == 3 ? LOOP : "HLT");
        }
        x.run(1100);
        CHECK.slotIs(x, 3, 3, 0, 1);
        x.mount(2);
        x.mount(1);
        bring(x, 4, LOOP);
        bring(x, 5, LOOP);
        x.begin(0, 0200);
        x.begin(5, 0200);
        x.begin(4, 0200);
        x.run(1);
        CHECK.due("the first without a slot, the least nobody's slot", x.look(3), 5);
        CHECK.look(x, 5, 1);
        x.run(256);
        taskIs(x, 2, 4, 2);
    }

    private static void slotsOfOthers() {
        CHECK.says("Else a slot of a user that doesn't wait for a BLOCK: the least one whose user isn't READY");
        for (int state = 2; state <= 7; state++) {
            ShareEight x = inState(state);
            start(x, 1, LOOP);
            x.run(1);
            if (state == 5) {
                taskIs(x, 4, 0, 0);
                x.run(7);
                CHECK.user(x, 0, SLOT, 0);
            } else {
                taskIs(x, 2, 1, 0);
                CHECK.user(x, 0, SLOT, NONE);
            }
        }
        ShareEight x = new ShareEight(4, 3, 64, 64);
        start(x, 0, LOOP);
        start(x, 1, "HLT");
        start(x, 2, "HLT");
        x.run(1000);
        CHECK.slotIs(x, 0, 0, 0, 1);
        start(x, 3, LOOP);
        x.run(1);
        taskIs(x, 2, 3, 1);
        CHECK.says("if it is CHANGED: out; else it is nobody's at once and In begins.");
        x = new ShareEight(4, 3, 64, 64);
        start(x, 0, LOOP);
        start(x, 1, "DCA 50;HLT");
        start(x, 2, "HLT");
        x.run(1000);
        start(x, 3, LOOP);
        x.run(1);
        taskIs(x, 1, 1, 1);
        CHECK.slotIs(x, 1, 1, 1, 1);
        x.run(256);
        taskIs(x, 2, 3, 1);
        x = inState(6);
        start(x, 1, LOOP);
        x.run(1);
        CHECK.slotIs(x, 0, NONE, 0, 0);
        CHECK.look(x, 7, 0);
        x = inState(6);
        x.deposit(0, 0, 0);
        start(x, 1, LOOP);
        x.run(1);
        taskIs(x, 1, 0, 0);
    }

    private static void slotsThatRan() {
        CHECK.says("without such the least one whose slot has RUN and whose user doesn't run just now");
        ShareEight x = new ShareEight(4, 3, 64, 64);
        for (int u = 0; u < 3; u++) {
            start(x, u, LOOP);
        }
        x.run(1100);
        for (int s = 0; s < 3; s++) {
            CHECK.slotIs(x, s, s, 0, 1);
        }
        int running = x.look(1);
        start(x, 3, LOOP);
        x.run(1);
        CHECK.look(x, 1, running);
        taskIs(x, 2, 3, running == 0 ? 1 : 0);
        x = waitingWithSlot();
        CHECK.look(x, 0, 514);
        CHECK.look(x, 1, 0);
        CHECK.slotIs(x, 0, 0, 0, 1);
        CHECK.slotIs(x, 1, 1, 0, 0);
        start(x, 2, LOOP);
        CHECK.due("0 runs, 1 hasn't RUN", x.run(62), 62);
        taskIs(x, 0, NONE, NONE);
        x.run(1);
        CHECK.due("0 has ended its QUANTUM", x.look(0), 577);
        taskIs(x, 2, 2, 0);
        CHECK.look(x, 1, 1);
        CHECK.user(x, 0, SLOT, NONE);
    }

    private static void noSlotAtAll() {
        CHECK.says("if there is one");
        ShareEight x = inState(RUNS);
        start(x, 1, LOOP);
        CHECK.due("its first QUANTUM", x.run(63), 63);
        CHECK.look(x, 0, 320);
        taskIs(x, 0, NONE, NONE);
        CHECK.slotIs(x, 0, 0, 0, 1);
        CHECK.user(x, 0, PLACE, 1);
        CHECK.due("its end", x.run(1), 0);
        taskIs(x, 2, 1, 0);
        x = inState(5);
        x.run(1);
        start(x, 1, LOOP);
        x.run(7);
        taskIs(x, 4, 0, 0);
        CHECK.user(x, 1, PLACE, 0);
    }

    private static void goingOut() {
        CHECK.says("(One whose words go out has its slot still, but doesn't run: the PROCESSOR passes it over.)");
        ShareEight x = inState(6);
        x.deposit(0, 0300, 5);
        start(x, 1, LOOP);
        x.run(1);
        CHECK.due("begin of one that goes out", x.begin(0, 0200), true);
        taskIs(x, 1, 0, 0);
        CHECK.user(x, 0, SLOT, 0);
        CHECK.due("passed over", x.run(255), 0);
        CHECK.user(x, 0, SLOT, 0);
        CHECK.user(x, 0, PLACE, 1);
        CHECK.due("out", x.run(1), 0);
        CHECK.user(x, 0, SLOT, NONE);
        CHECK.user(x, 0, STATE, 1);
        CHECK.user(x, 0, PLACE, 1);
        x = new ShareEight(3, 2, 1, 64);
        start(x, 0, "ISZ 50;JMP .-1;JMP .-2");
        start(x, 1, LOOP);
        x.run(600);
        start(x, 2, LOOP);
        x.run(1);
        CHECK.look(x, 2, 1);
        taskIs(x, 1, 0, 0);
        int done = x.user(0, 5);
        CHECK.due("another one has all the ticks", x.run(255), 255);
        CHECK.user(x, 0, 5, done);
    }

    private static void firstOfQueue() {
        CHECK.says("if nobody runs: the first of the QUEUE that has a slot from which no words go out runs: it leaves the QUEUE, with QUANTUM ticks.");
        ShareEight x = new ShareEight(3, 1, 7, 64);
        start(x, 0, "KRB;JMP .");
        x.run(257);
        start(x, 1, LOOP);
        start(x, 2, LOOP);
        x.key(0, 1);
        CHECK.user(x, 0, PLACE, 2);
        CHECK.due("0 has RUN, and its slot is taken", x.run(1), 0);
        x = new ShareEight(3, 2, 7, 64);
        start(x, 0, LOOP);
        x.run(257);
        start(x, 1, LOOP);
        start(x, 2, LOOP);
        x.run(6);
        CHECK.look(x, 1, NONE);
        CHECK.user(x, 1, PLACE, 0);
        CHECK.user(x, 2, PLACE, 1);
        CHECK.user(x, 0, PLACE, 2);
        CHECK.due("those without a slot are passed over", x.run(1), 1);
        CHECK.look(x, 1, 0);
        CHECK.user(x, 0, PLACE, NONE);
        CHECK.user(x, 0, LEFT, 6);
        CHECK.user(x, 1, PLACE, 0);
        CHECK.user(x, 2, PLACE, 1);
        CHECK.look(x, 9, 2);
    }

    private static void idling() {
        CHECK.says("Nobody (also when all that are READY have no slot, or go out): an idle tick.");
        ShareEight x = inState(0);
        x.run(1);
        CHECK.due("nobody is READY", x.look(8), 1);
        x = inState(1);
        x.run(256);
        CHECK.due("the READY one has no slot", x.look(8), 256);
        x.run(1);
        CHECK.look(x, 8, 256);
        x = inState(2);
        CHECK.due("one that begins to wait isn't idle", x.look(8), 256);
        x = inState(7);
        CHECK.due("nor one that goes WRONG", x.look(8), 256);
        x = inState(6);
        x.deposit(0, 0300, 5);
        bring(x, 1, LOOP);
        x.begin(1, 0200);
        x.run(1);
        x.begin(0, 0200);
        int idle = x.look(8);
        x.run(100);
        CHECK.due("one goes out, one has no slot", x.look(8), idle + 100);
    }

    private static void runningOut() {
        CHECK.says("Else with none left its slot has RUN, and it goes behind the QUEUE, if there is anybody else in it; without it has QUANTUM again.");
        int[] quanta = {1, 2, 5, 64};
        for (int quantum : quanta) {
            ShareEight x = new ShareEight(2, 2, quantum, 64);
            start(x, 0, LOOP);
            x.run(256);
            if (quantum > 1) {
                x.run(quantum - 1);
                CHECK.user(x, 0, LEFT, 1);
                CHECK.slotIs(x, 0, 0, 0, 0);
            }
            x.run(1);
            CHECK.slotIs(x, 0, 0, 0, 1);
            CHECK.user(x, 0, LEFT, quantum);
            CHECK.look(x, 1, 0);
            start(x, 1, LOOP);
            if (quantum > 1) {
                x.run(quantum - 1);
                CHECK.user(x, 0, LEFT, 1);
            }
            x.run(1);
            CHECK.user(x, 0, LEFT, NONE);
            CHECK.look(x, 1, NONE);
            CHECK.user(x, 0, PLACE, 1);
            CHECK.user(x, 0, STATE, 1);
            CHECK.due("nobody is idle", x.run(1), 1);
            CHECK.user(x, 1, PLACE, 0);
        }
    }

    private static void leavingEarly() {
        CHECK.says("If it isn't READY any more, it runs no more (what it had left is gone), and its slot has RUN.");
        ShareEight x = new ShareEight(1, 1, 5, 64);
        start(x, 0, "NOP;KRB;KRB;JMP .");
        x.run(257);
        CHECK.user(x, 0, LEFT, 4);
        CHECK.slotIs(x, 0, 0, 0, 0);
        x.run(1);
        CHECK.user(x, 0, LEFT, NONE);
        CHECK.look(x, 1, NONE);
        CHECK.slotIs(x, 0, 0, 0, 1);
        x.key(0, 1);
        x.run(1);
        CHECK.due("a QUANTUM anew", x.user(0, LEFT), 4);
        x.run(1);
        x.key(0, 1);
        x.run(1);
        CHECK.due("and again", x.user(0, LEFT), 4);
        for (int state = 2; state <= 7; state++) {
            x = inState(state);
            CHECK.slotIs(x, 0, 0, 0, 1);
            CHECK.look(x, 1, NONE);
            CHECK.look(x, 9, 0);
        }
        x = new ShareEight(1, 1, 1, 64);
        start(x, 0, "KRB");
        x.run(257);
        CHECK.due("with its last tick", x.user(0, STATE), 2);
        CHECK.look(x, 9, 0);
        CHECK.look(x, 1, NONE);
    }
}
