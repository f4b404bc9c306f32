import java.util.Arrays;

/**
 * Time sharing on a machine of twelve bits: an assembler for sources on a tape, and a house of users
 * whose images go between a drum and the slots of a core while others run.
 */
public final class ShareEight {
    public static final int NONE = -1;

    private static final int WORDS = 4096;
    private static final int MASK = 07777;
    private static final int PAGE_WORDS = 128;
    private static final int PAGE_BITS = 07600;
    private static final int START = 0200;
    private static final int TAPE_BYTES = 2000;
    private static final int FED_BYTES = 20;
    private static final int MOST_TICKS = 20000;
    private static final int BLOCKS = 8;
    private static final int BLOCK_WORDS = 128;
    private static final int ROW_SIZE = 16;
    private static final int PAPER_SIZE = 500;

    private static final int EMPTY = 0;
    private static final int READY = 1;
    private static final int WAITS_KEY = 2;
    private static final int WAITS_ROOM = 3;
    private static final int SLEEPS = 4;
    private static final int WAITS_BLOCK = 5;
    private static final int STOPPED = 6;
    private static final int WRONG = 7;

    private static final int NO_TASK = 0;
    private static final int TASK_OUT = 1;
    private static final int TASK_IN = 2;
    private static final int TASK_READ = 3;
    private static final int TASK_WRITE = 4;

    private static final int NO_TOKEN = 1;
    private static final int MISPLACED = 2;
    private static final int UNTOLD = 3;
    private static final int TOLD_TWICE = 4;
    private static final int RESERVED = 5;
    private static final int FULL = 6;
    private static final int NO_PAGE = 7;
    private static final int NO_ROOM = 8;

    private final int[] tape;
    private int tapeLength;
    private final Assembler assembler;
    private final House house;

    public ShareEight(int users, int slots, int quantum, int speed) {
        tape = new int[TAPE_BYTES];
        tapeLength = 0;
        assembler = new Assembler();
        house = new House(nearest(users, 6), nearest(slots, 4), nearest(quantum, 64), nearest(speed, 64));
    }

    private static int nearest(int n, int most) {
        return Math.max(1, Math.min(most, n));
    }

    private static boolean isWord(int w) {
        return w >= 0 && w < WORDS;
    }

    public int feed(int a, int b, int c, int d, int e) {
        if (tapeLength + FED_BYTES > TAPE_BYTES) {
            return NONE;
        }
        feedFour(a);
        feedFour(b);
        feedFour(c);
        feedFour(d);
        feedFour(e);
        return tapeLength;
    }

    private void feedFour(int number) {
        for (int shift = 24; shift >= 0 && tapeLength < TAPE_BYTES; shift -= 8) {
            tape[tapeLength] = (number >>> shift) & 255;
            tapeLength++;
        }
    }

    public boolean end(int n) {
        if (n < 0 || n > tapeLength) {
            return false;
        }
        tapeLength = n;
        return true;
    }

    public int assemble() {
        assembler.open(tape, tapeLength);
        tapeLength = 0;
        assembler.passOver(false);
        assembler.passOver(true);
        return assembler.close();
    }

    public int fault(int what) {
        switch (what) {
            case 0:
                return assembler.fault;
            case 1:
                return assembler.faultPlace;
            default:
                return NONE;
        }
    }

    public int made(int place) {
        return assembler.sheet.at(place);
    }

    public boolean mount(int u) {
        User user = house.userAt(u);
        if (user == null || !house.mayChange(user)) {
            return false;
        }
        house.load(user, assembler.sheet);
        return true;
    }

    public boolean begin(int u, int pc) {
        User user = house.userAt(u);
        if (user == null || !isWord(pc) || !user.hasStopped()) {
            return false;
        }
        user.pc = pc;
        house.makeReady(user);
        return true;
    }

    public boolean halt(int u) {
        User user = house.userAt(u);
        if (user == null || !user.mayBeHalted()) {
            return false;
        }
        house.stop(user);
        return true;
    }

    public boolean key(int u, int c) {
        User user = house.userAt(u);
        if (user == null || c < 0 || c > 127) {
            return false;
        }
        return house.press(user, c);
    }

    public boolean set(int u, int w) {
        User user = house.userAt(u);
        if (user == null || !isWord(w)) {
            return false;
        }
        user.switches = w;
        return true;
    }

    public boolean deposit(int u, int a, int v) {
        User user = house.userAt(u);
        if (user == null || !isWord(a) || !isWord(v) || !house.mayChange(user)) {
            return false;
        }
        user.store(a, v);
        return true;
    }

    public int run(int n) {
        if (n < 1 || n > MOST_TICKS) {
            return NONE;
        }
        int before = house.done;
        for (int i = 0; i < n; i++) {
            house.tick();
        }
        return house.done - before;
    }

    public int user(int u, int what) {
        User user = house.userAt(u);
        if (user == null) {
            return NONE;
        }
        switch (what) {
            case 9:
                return user.slot == null ? NONE : user.slot.number;
            case 10:
                return house.queue.placeOf(user);
            case 14:
                return house.running == user ? house.left : NONE;
            default:
                return user.register(what);
        }
    }

    public int look(int what) {
        switch (what) {
            case 0:
                return house.time;
            case 1:
                return house.running == null ? NONE : house.running.number;
            case 8:
                return house.idle;
            case 9:
                return house.queue.size;
            case 10:
                return house.done;
            case 11:
                return tapeLength;
            default:
                return house.channel.register(what);
        }
    }

    public int word(int u, int a) {
        User user = house.userAt(u);
        return user == null || !isWord(a) ? NONE : user.fetch(a);
    }

    public int core(int s, int a) {
        Slot slot = house.slotAt(s);
        return slot == null || !isWord(a) ? NONE : slot.words[a];
    }

    public int drum(int u, int a) {
        User user = house.userAt(u);
        return user == null || !isWord(a) ? NONE : user.drum[a];
    }

    public int slot(int s, int what) {
        Slot slot = house.slotAt(s);
        return slot == null ? NONE : slot.register(what);
    }

    public int block(int u, int b, int i) {
        User user = house.userAt(u);
        if (user == null || b < 0 || b >= BLOCKS || i < 0 || i >= BLOCK_WORDS) {
            return NONE;
        }
        return user.file[b * BLOCK_WORDS + i];
    }

    public int paper(int u, int i) {
        User user = house.userAt(u);
        return user == null ? NONE : user.letterOnPaper(i);
    }

    /** A row of at most 16 numbers: the first that came is the first that goes. */
    private static final class Row {
        private final int[] items = new int[ROW_SIZE];
        private int first = 0;
        private int size = 0;

        boolean isFull() {
            return size >= ROW_SIZE;
        }

        boolean isEmpty() {
            return size == 0;
        }

        void append(int item) {
            if (isFull()) {
                return;
            }
            items[(first + size) % ROW_SIZE] = item;
            size++;
        }

        int head() {
            return isEmpty() ? NONE : items[first];
        }

        void drop() {
            if (isEmpty()) {
                return;
            }
            first = (first + 1) % ROW_SIZE;
            size--;
        }
    }

    private static final class Slot {
        private final int number;
        private final int[] words = new int[WORDS];
        private User owner = null;
        private boolean changed = false;
        private boolean ran = false;

        Slot(int number) {
            this.number = number;
        }

        void put(int address, int value) {
            words[address & MASK] = value;
            changed = true;
        }

        void release() {
            if (owner != null) {
                owner.slot = null;
            }
            owner = null;
            changed = false;
            ran = false;
        }

        void give(User to) {
            owner = to;
            to.slot = this;
            changed = false;
            ran = false;
        }

        int register(int what) {
            switch (what) {
                case 0:
                    return owner == null ? NONE : owner.number;
                case 1:
                    return changed ? 1 : 0;
                case 2:
                    return ran ? 1 : 0;
                default:
                    return NONE;
            }
        }
    }

    private static final class User {
        private final int number;
        private final int[] drum = new int[WORDS];
        private final int[] file = new int[BLOCKS * BLOCK_WORDS];
        private final int[] paper = new int[PAPER_SIZE];
        private final Row keys = new Row();
        private final Row out = new Row();
        private int printed = 0;
        private int mayPrintAt = 0;
        private int state = EMPTY;
        private int pc = 0;
        private int ac = 0;
        private int link = 0;
        private int mq = 0;
        private int switches = 0;
        private int done = 0;
        private int lostKeys = 0;
        private int wakesAt = 0;
        private int waitsSince = 0;
        private int blockTask = NO_TASK;
        private Slot slot = null;

        User(int number) {
            this.number = number;
        }

        boolean hasStopped() {
            return state == STOPPED || state == WRONG;
        }

        boolean mayBeHalted() {
            return state == READY || state == SLEEPS || state == WAITS_KEY || state == WAITS_ROOM;
        }

        int fetch(int address) {
            return slot == null ? drum[address & MASK] : slot.words[address & MASK];
        }

        void store(int address, int value) {
            if (slot == null) {
                drum[address & MASK] = value;
            } else {
                slot.put(address, value);
            }
        }

        void clearRegisters() {
            pc = START;
            ac = 0;
            link = 0;
            mq = 0;
        }

        void print() {
            if (printed < PAPER_SIZE) {
                paper[printed] = out.head();
            }
            printed++;
            out.drop();
        }

        int letterOnPaper(int i) {
            return i < 0 || i >= printed || i >= PAPER_SIZE ? NONE : paper[i];
        }

        int register(int what) {
            switch (what) {
                case 0:
                    return state;
                case 1:
                    return pc;
                case 2:
                    return ac;
                case 3:
                    return link;
                case 4:
                    return mq;
                case 5:
                    return done;
                case 6:
                    return keys.size;
                case 7:
                    return out.size;
                case 8:
                    return printed;
                case 11:
                    return lostKeys;
                case 12:
                    return switches;
                case 13:
                    return state == SLEEPS ? wakesAt : NONE;
                default:
                    return NONE;
            }
        }
    }

    /** The READY users that do not run, in their order. */
    private static final class Queue {
        private final User[] items;
        private int size = 0;

        Queue(int most) {
            items = new User[Math.max(1, most)];
        }

        User at(int i) {
            return i < 0 || i >= size ? null : items[i];
        }

        void append(User user) {
            if (size < items.length) {
                items[size] = user;
                size++;
            }
        }

        int placeOf(User user) {
            for (int i = 0; i < size; i++) {
                if (items[i] == user) {
                    return i;
                }
            }
            return NONE;
        }

        void remove(User user) {
            int place = placeOf(user);
            if (place == NONE) {
                return;
            }
            for (int i = place; i + 1 < size; i++) {
                items[i] = items[i + 1];
            }
            size--;
            items[size] = null;
        }
    }

    /** What moves words between drum, core and files: one task at a time. */
    private static final class Channel {
        private static final int STEP = 16;

        private int task = NO_TASK;
        private User user = null;
        private Slot slot = null;
        private int moved = 0;
        private boolean lastWasBlock = false;
        private int insDone = 0;
        private int outsDone = 0;
        private int blocksDone = 0;

        boolean isIdle() {
            return task == NO_TASK;
        }

        boolean isMoving(User u) {
            return task != NO_TASK && user == u;
        }

        boolean isTakingOut(User u) {
            return task == TASK_OUT && user == u;
        }

        void start(int newTask, User newUser, Slot newSlot) {
            task = newTask;
            user = newUser;
            slot = newSlot;
            moved = 0;
        }

        void clear() {
            start(NO_TASK, null, null);
        }

        /** Moves the next words; answers whether all of the task are moved. */
        boolean advance() {
            if (user == null || slot == null) {
                return false;
            }
            if (task == TASK_OUT) {
                copyStep(slot.words, user.drum);
            } else if (task == TASK_IN) {
                copyStep(user.drum, slot.words);
            } else {
                moveBlockStep(user, slot);
            }
            moved += STEP;
            return moved >= (task == TASK_OUT || task == TASK_IN ? WORDS : BLOCK_WORDS);
        }

        private void copyStep(int[] from, int[] to) {
            if (moved >= 0 && moved + STEP <= WORDS) {
                System.arraycopy(from, moved, to, moved, STEP);
            }
        }

        private void moveBlockStep(User of, Slot in) {
            int start = (of.ac & 7) * BLOCK_WORDS;
            for (int i = moved; i < moved + STEP && i < BLOCK_WORDS; i++) {
                int address = (of.mq + i) & MASK;
                if (task == TASK_READ) {
                    in.put(address, of.file[start + i]);
                } else {
                    of.file[start + i] = in.words[address];
                }
            }
        }

        int register(int what) {
            switch (what) {
                case 2:
                    return task;
                case 3:
                    return user == null ? NONE : user.number;
                case 4:
                    return moved;
                case 5:
                    return slot == null ? NONE : slot.number;
                case 6:
                    return insDone;
                case 7:
                    return outsDone;
                case 12:
                    return blocksDone;
                default:
                    return NONE;
            }
        }
    }

    /** Does one instruction for a user whose words are in a slot. */
    private static final class Machine {
        private int time = 0;
        private int at = 0;

        /** Answers whether the instruction is done: not one that waits, or is WRONG. */
        boolean step(User u, Slot s, int now) {
            time = now;
            at = u.pc & MASK;
            int instruction = s.words[at];
            u.pc = (at + 1) & MASK;
            int operation = instruction >> 9;
            if (operation < 6) {
                refer(u, s, operation, instruction);
                return true;
            }
            if (operation == 6) {
                return callMonitor(u, instruction);
            }
            if ((instruction & 0400) == 0) {
                operate(u, instruction);
                return true;
            }
            if ((instruction & 1) == 0) {
                skipOrStop(u, instruction);
                return true;
            }
            return extend(u, s, instruction);
        }

        private int addressOf(Slot s, int instruction) {
            int address = instruction & 0177;
            if ((instruction & 0200) != 0) {
                address |= at & PAGE_BITS;
            }
            if ((instruction & 0400) == 0) {
                return address;
            }
            if (address >= 010 && address <= 017) {
                s.put(address, (s.words[address] + 1) & MASK);
            }
            return s.words[address] & MASK;
        }

        private void refer(User u, Slot s, int operation, int instruction) {
            int address = addressOf(s, instruction);
            switch (operation) {
                case 0:
                    u.ac &= s.words[address];
                    break;
                case 1:
                    int sum = u.ac + s.words[address];
                    u.ac = sum & MASK;
                    u.link ^= sum >> 12;
                    break;
                case 2:
                    int more = (s.words[address] + 1) & MASK;
                    s.put(address, more);
                    skipIf(u, more == 0);
                    break;
                case 3:
                    s.put(address, u.ac);
                    u.ac = 0;
                    break;
                case 4:
                    s.put(address, u.pc);
                    u.pc = (address + 1) & MASK;
                    break;
                default:
                    u.pc = address;
                    break;
            }
        }

        private static void skipIf(User u, boolean skips) {
            if (skips) {
                u.pc = (u.pc + 1) & MASK;
            }
        }

        private static void operate(User u, int bits) {
            if ((bits & 0200) != 0) {
                u.ac = 0;
            }
            if ((bits & 0100) != 0) {
                u.link = 0;
            }
            if ((bits & 040) != 0) {
                u.ac ^= MASK;
            }
            if ((bits & 020) != 0) {
                u.link ^= 1;
            }
            if ((bits & 1) != 0) {
                setBoth(u, both(u) + 1);
            }
            turn(u, bits);
        }

        private static int both(User u) {
            return (u.link << 12) | u.ac;
        }

        private static void setBoth(User u, int bits) {
            u.ac = bits & MASK;
            u.link = (bits >> 12) & 1;
        }

        private static void turn(User u, int bits) {
            int turns = (bits & 2) != 0 ? 2 : 1;
            switch (bits & 014) {
                case 010:
                    int right = both(u);
                    setBoth(u, (right >> turns) | (right << (13 - turns)));
                    break;
                case 4:
                    int left = both(u);
                    setBoth(u, (left << turns) | (left >> (13 - turns)));
                    break;
                case 0:
                    if (turns == 2) {
                        u.ac = ((u.ac >> 6) | (u.ac << 6)) & MASK;
                    }
                    break;
                default:
                    break;
            }
        }

        private static void skipOrStop(User u, int bits) {
            boolean one = (bits & 0100) != 0 && (u.ac & 04000) != 0
                    || (bits & 040) != 0 && u.ac == 0
                    || (bits & 020) != 0 && u.link == 1;
            skipIf(u, one != ((bits & 010) != 0));
            if ((bits & 0200) != 0) {
                u.ac = 0;
            }
            if ((bits & 4) != 0) {
                u.ac |= u.switches;
            }
            if ((bits & 2) != 0) {
                u.state = STOPPED;
            }
        }

        private boolean extend(User u, Slot s, int bits) {
            int kind = bits & 016;
            if (kind == 2 || kind == 010) {
                return goWrong(u);
            }
            if ((bits & 0200) != 0) {
                u.ac = 0;
            }
            int old = u.ac;
            switch (bits & 0120) {
                case 0120:
                    u.ac = u.mq;
                    u.mq = old;
                    break;
                case 0100:
                    u.ac |= u.mq;
                    break;
                case 020:
                    u.mq = old;
                    u.ac = 0;
                    break;
                default:
                    break;
            }
            if (kind != 0) {
                int operand = s.words[u.pc & MASK];
                u.pc = (u.pc + 1) & MASK;
                reckon(u, kind, operand);
            }
            return true;
        }

        private static void reckon(User u, int kind, int operand) {
            switch (kind) {
                case 4:
                    setLong(u, operand * u.mq + u.ac);
                    u.link = 0;
                    break;
                case 6:
                    divide(u, operand);
                    break;
                default:
                    shift(u, kind, (operand & 037) + 1);
                    break;
            }
        }

        private static void setLong(User u, int bits) {
            u.ac = (bits >> 12) & MASK;
            u.mq = bits & MASK;
        }

        private static void divide(User u, int divisor) {
            if (divisor <= 0 || u.ac >= divisor) {
                u.link = 1;
                return;
            }
            int all = (u.ac << 12) | u.mq;
            u.mq = all / divisor;
            u.ac = all % divisor;
            u.link = 0;
        }

        private static void shift(User u, int kind, int turns) {
            int all = (u.ac << 12) | u.mq;
            int sign = kind == 014 ? u.ac >> 11 : 0;
            if (kind != 012) {
                u.link = sign;
            }
            for (int i = 0; i < turns; i++) {
                if (kind == 012) {
                    u.link = (all >> 23) & 1;
                    all = (all << 1) & 077777777;
                } else {
                    all = (all >> 1) | (sign << 23);
                }
            }
            setLong(u, all);
        }

        private boolean goWrong(User u) {
            u.pc = at;
            u.state = WRONG;
            return false;
        }

        private boolean waitFor(User u, int state) {
            u.pc = at;
            u.state = state;
            return false;
        }

        private boolean callMonitor(User u, int instruction) {
            switch (instruction) {
                case 06031:
                    skipIf(u, !u.keys.isEmpty());
                    return true;
                case 06032:
                    u.ac = 0;
                    u.keys.drop();
                    return true;
                case 06034:
                case 06036:
                    return readKey(u, instruction == 06036);
                case 06041:
                    skipIf(u, true);
                    return true;
                case 06044:
                case 06046:
                    return sendLetter(u);
                case 06420:
                    fallAsleep(u);
                    return true;
                case 06417:
                    u.ac = u.number;
                    return true;
                case 06440:
                case 06441:
                    u.state = WAITS_BLOCK;
                    u.blockTask = instruction == 06440 ? TASK_READ : TASK_WRITE;
                    u.waitsSince = time;
                    return false;
                case 06042:
                case 06201:
                case 06202:
                case 06203:
                case 06214:
                case 06224:
                case 06234:
                    return true;
                default:
                    return goWrong(u);
            }
        }

        private boolean readKey(User u, boolean takes) {
            if (u.keys.isEmpty()) {
                return waitFor(u, WAITS_KEY);
            }
            int code = u.keys.head() | 0200;
            if (takes) {
                u.ac = code;
                u.keys.drop();
            } else {
                u.ac |= code;
            }
            return true;
        }

        private boolean sendLetter(User u) {
            if (u.out.isFull()) {
                return waitFor(u, WAITS_ROOM);
            }
            u.out.append(u.ac & 0177);
            return true;
        }

        private void fallAsleep(User u) {
            if (u.ac != 0) {
                u.state = SLEEPS;
                u.wakesAt = time + 16 * u.ac;
            }
            u.ac = 0;
        }
    }

    /** Users, core, drum, channel and processor, tick by tick. */
    private static final class House {
        private final User[] users;
        private final Slot[] slots;
        private final Queue queue;
        private final Channel channel = new Channel();
        private final Machine machine = new Machine();
        private final int quantum;
        private final int speed;
        private int time = 0;
        private User running = null;
        private int left = 0;
        private int idle = 0;
        private int done = 0;

        House(int userCount, int slotCount, int quantum, int speed) {
            users = new User[Math.max(1, userCount)];
            for (int i = 0; i < users.length; i++) {
                users[i] = new User(i);
            }
            slots = new Slot[Math.max(1, slotCount)];
            for (int i = 0; i < slots.length; i++) {
                slots[i] = new Slot(i);
            }
            queue = new Queue(users.length);
            this.quantum = quantum;
            this.speed = speed;
        }

        User userAt(int u) {
            return u < 0 || u >= users.length ? null : users[u];
        }

        Slot slotAt(int s) {
            return s < 0 || s >= slots.length ? null : slots[s];
        }

        boolean mayChange(User user) {
            return (user.state == EMPTY || user.hasStopped()) && !channel.isMoving(user);
        }

        void load(User user, Sheet sheet) {
            if (user.slot != null) {
                user.slot.release();
            }
            sheet.copyTo(user.drum);
            user.clearRegisters();
            user.state = STOPPED;
        }

        void makeReady(User user) {
            user.state = READY;
            queue.append(user);
        }

        void stop(User user) {
            user.state = STOPPED;
            queue.remove(user);
            if (running == user) {
                endTurn(user);
            }
        }

        boolean press(User user, int c) {
            if (user.keys.isFull()) {
                user.lostKeys++;
                return false;
            }
            user.keys.append(c);
            if (user.state == WAITS_KEY) {
                makeReady(user);
            }
            return true;
        }

        void tick() {
            time++;
            for (int i = 0; i < users.length; i++) {
                // Most users need nothing in most ticks: they cost no call.
                User user = users[i];
                if (user.state == SLEEPS || user.out.size > 0) {
                    attend(user);
                }
            }
            if (!channel.isIdle() && channel.advance()) {
                finishTask(channel.user, channel.slot);
            }
            if (channel.isIdle()) {
                lookForTask();
            }
            process();
        }

        private void attend(User user) {
            if (user.state == SLEEPS && time >= user.wakesAt) {
                makeReady(user);
            }
            if (user.out.isEmpty() || time < user.mayPrintAt) {
                return;
            }
            user.print();
            user.mayPrintAt = time + speed;
            if (user.state == WAITS_ROOM) {
                makeReady(user);
            }
        }

        private void finishTask(User user, Slot slot) {
            if (user == null || slot == null) {
                return;
            }
            channel.lastWasBlock = false;
            if (channel.task == TASK_OUT) {
                slot.release();
                channel.outsDone++;
            } else if (channel.task == TASK_IN) {
                slot.give(user);
                channel.insDone++;
            } else {
                finishBlock(user, slot);
            }
            channel.clear();
        }

        private void finishBlock(User user, Slot slot) {
            channel.lastWasBlock = true;
            channel.blocksDone++;
            user.ac = 0;
            user.done++;
            done++;
            slot.ran = true;
            makeReady(user);
        }

        private void lookForTask() {
            if (channel.lastWasBlock) {
                if (!serveQueue()) {
                    serveBlocks();
                }
            } else if (!serveBlocks()) {
                serveQueue();
            }
        }

        private boolean serveBlocks() {
            User longest = null;
            for (int i = 0; i < users.length; i++) {
                User user = users[i];
                if (user.state == WAITS_BLOCK && (longest == null || user.waitsSince < longest.waitsSince)) {
                    longest = user;
                }
            }
            if (longest == null || longest.slot == null) {
                return false;
            }
            channel.start(longest.blockTask, longest, longest.slot);
            return true;
        }

        private boolean serveQueue() {
            User wanting = firstWithoutSlot();
            if (wanting == null) {
                return false;
            }
            Slot slot = freeSlot();
            if (slot == null) {
                slot = slotToClear();
            }
            if (slot == null) {
                return false;
            }
            if (slot.changed) {
                channel.start(TASK_OUT, slot.owner, slot);
                return true;
            }
            slot.release();
            channel.start(TASK_IN, wanting, slot);
            return true;
        }

        private User firstWithoutSlot() {
            for (int i = 0; i < queue.size; i++) {
                User user = queue.at(i);
                if (user != null && user.slot == null) {
                    return user;
                }
            }
            return null;
        }

        private Slot freeSlot() {
            for (int i = 0; i < slots.length; i++) {
                if (slots[i].owner == null) {
                    return slots[i];
                }
            }
            return null;
        }

        private Slot slotToClear() {
            Slot ran = null;
            for (int i = 0; i < slots.length; i++) {
                User owner = slots[i].owner;
                if (owner == null || owner.state == WAITS_BLOCK) {
                    continue;
                }
                if (owner.state != READY) {
                    return slots[i];
                }
                if (ran == null && slots[i].ran && owner != running) {
                    ran = slots[i];
                }
            }
            return ran;
        }

        private void process() {
            if (running == null) {
                chooseRunning();
            }
            User user = running;
            if (user == null || user.slot == null) {
                idle++;
                return;
            }
            if (machine.step(user, user.slot, time)) {
                user.done++;
                done++;
            }
            left--;
            if (user.state != READY) {
                endTurn(user);
            } else if (left <= 0) {
                endQuantum(user);
            }
        }

        private void chooseRunning() {
            for (int i = 0; i < queue.size; i++) {
                User user = queue.at(i);
                if (user != null && user.slot != null && !channel.isTakingOut(user)) {
                    queue.remove(user);
                    running = user;
                    left = quantum;
                    return;
                }
            }
        }

        private void endTurn(User user) {
            running = null;
            left = 0;
            if (user.slot != null) {
                user.slot.ran = true;
            }
        }

        private void endQuantum(User user) {
            endTurn(user);
            if (queue.size > 0) {
                queue.append(user);
            } else {
                running = user;
                left = quantum;
            }
        }
    }

    /** What lies at 4096 places: nothing, a word of the text, or a literal, which is marked. */
    private static final class Sheet {
        private static final int LITERAL = 010000;

        private final int[] cells = new int[WORDS];
        private int count = 0;

        Sheet() {
            Arrays.fill(cells, NONE);
        }

        void clear() {
            Arrays.fill(cells, NONE);
            count = 0;
        }

        int at(int place) {
            return place < 0 || place >= WORDS || cells[place] == NONE ? NONE : cells[place] & MASK;
        }

        void copyTo(int[] target) {
            for (int i = 0; i < WORDS && i < target.length; i++) {
                target[i] = cells[i] == NONE ? 0 : cells[i] & MASK;
            }
        }

        boolean hasLiteral(int from, int length) {
            for (int i = Math.max(0, from); i < from + length && i < WORDS; i++) {
                if (cells[i] >= LITERAL) {
                    return true;
                }
            }
            return false;
        }

        void lay(int place, int cell) {
            if (place < 0 || place >= WORDS) {
                return;
            }
            if (cells[place] == NONE) {
                count++;
            }
            cells[place] = cell;
        }

        /** The place of a literal in the page that begins at first; NONE without room. */
        int literalPlace(int first, int value) {
            int wanted = LITERAL | value;
            for (int i = first + PAGE_WORDS - 1; i >= first && i >= 0 && i < WORDS; i--) {
                if (cells[i] == NONE) {
                    lay(i, wanted);
                    return i;
                }
                if (cells[i] == wanted) {
                    return i;
                }
                if (cells[i] < LITERAL) {
                    return NONE;
                }
            }
            return NONE;
        }
    }

    /** All names of a text, each once: those that are there first. A name's letters are held as one number. */
    private static final class Names {
        private static final int PAGE = 0;
        private static final int DECIMAL = 1;
        private static final int OCTAL = 2;
        private static final int ZBLOCK = 3;
        private static final int TEXT = 4;
        private static final int FIRST_REFERENCE = 5;
        private static final int LAST_REFERENCE = 10;
        private static final int INDIRECT = 11;
        private static final int ZERO_PAGE = 12;
        private static final int MOST_TOLD = 200;
        /** Between two names there is at least a byte. */
        private static final int MOST_NAMES = TAPE_BYTES / 2 + 1;
        private static final int NOT_TOLD = 0;
        private static final int BY_COMMA = 1;
        private static final int BY_EQUALS = 2;
        private static final int FIXED = 3;
        private static final String FIXED_NAMES = "PAGE DECIMAL OCTAL ZBLOCK TEXT AND TAD ISZ DCA JMS JMP I Z NOP CLA CLL CMA CML RAR RAL RTR RTL BSW IAC CIA STL SMA SZA SPA SNA SNL SZL SKP OSR HLT MQL MQA SWP MUY DVI SHL ASR LSR KSF KCC KRS KRB TSF TLS SLEEP WHO RDB WRB ";
        private static final int[] FIXED_VALUES = {
            0, 0, 0, 0, 0, 0, 01000, 02000, 03000, 04000, 05000, 0400, 0, 07000, 07200, 07100, 07040, 07020,
            07010, 07004, 07012, 07006, 07002, 07001, 07041, 07120, 07500, 07440, 07510, 07450, 07420, 07430,
            07410, 07404, 07402, 07421, 07501, 07521, 07405, 07407, 07413, 07415, 07417,
            06031, 06032, 06034, 06036, 06041, 06046, 06420, 06417, 06440, 06441
        };

        private final long[] letters = new long[FIXED_VALUES.length + MOST_NAMES];
        private final int[] values = new int[FIXED_VALUES.length + MOST_NAMES];
        private final int[] tellings = new int[FIXED_VALUES.length + MOST_NAMES];
        private int count = 0;
        private int toldCount = 0;

        Names() {
            long name = 0;
            for (int i = 0; i < FIXED_NAMES.length(); i++) {
                char c = FIXED_NAMES.charAt(i);
                if (c != ' ') {
                    name = withLetter(name, c);
                } else if (count < FIXED_VALUES.length) {
                    letters[count] = name;
                    values[count] = FIXED_VALUES[count];
                    tellings[count] = FIXED;
                    count++;
                    name = 0;
                }
            }
        }

        static long withLetter(long name, int c) {
            return (name << 8) | c;
        }

        void forget() {
            count = FIXED_VALUES.length;
            toldCount = 0;
        }

        /** The number of a name, which is a new one if the name wasn't seen before. */
        int numberOf(long name) {
            for (int i = 0; i < count; i++) {
                if (letters[i] == name) {
                    return i;
                }
            }
            if (count >= letters.length) {
                return NONE;
            }
            letters[count] = name;
            values[count] = 0;
            tellings[count] = NOT_TOLD;
            count++;
            return count - 1;
        }

        int tellingOf(int number) {
            return number < 0 || number >= count ? NOT_TOLD : tellings[number];
        }

        int valueOf(int number) {
            return number < 0 || number >= count ? 0 : values[number];
        }

        void tell(int number, int value, int telling) {
            if (number < 0 || number >= count) {
                return;
            }
            if (tellings[number] == NOT_TOLD) {
                toldCount++;
            }
            values[number] = value;
            tellings[number] = telling;
        }
    }

    /** A text as a row of tokens. A sign's kind is its own byte. */
    private static final class Tokens {
        private static final int TEXT_END = 0;
        private static final int NAME = 1;
        private static final int NUMBER = 2;
        private static final int LETTER = 3;
        private static final int TEXT = 4;
        private static final int BAD_TEXT = 5;
        private static final int BAD = 6;
        private static final int LINE_END = 10;
        private static final String SIGNS = ",*=+-!&.()[];$";
        private static final int LONGEST_NAME = 7;
        private static final int LONGEST_NUMBER = 4;

        private final Names names;
        private final int[] kinds = new int[TAPE_BYTES + 1];
        private final int[] starts = new int[TAPE_BYTES + 1];
        /** A name's number, a number's value in octal, a letter's code, where the bytes of a TEXT begin. */
        private final int[] values = new int[TAPE_BYTES + 1];
        /** A number's value in decimal, where the bytes of a TEXT end. */
        private final int[] others = new int[TAPE_BYTES + 1];
        private int count = 0;
        private int[] bytes = new int[0];
        private int length = 0;
        private int next = 0;

        Tokens(Names names) {
            this.names = names;
        }

        /** What is behind a byte that is no token, or behind a $, is never looked at: the row ends there. */
        void scan(int[] source, int size) {
            bytes = source;
            length = Math.max(0, Math.min(size, Math.min(source.length, TAPE_BYTES)));
            next = 0;
            count = 0;
            names.forget();
            for (int i = 0; i <= length; i++) {
                next = skipBlanks(next);
                skipRemark();
                int kind = scanToken();
                if (kind == TEXT_END || kind == BAD || kind == BAD_TEXT || kind == '$') {
                    return;
                }
            }
        }

        int byteAt(int place) {
            return place < 0 || place >= length ? NONE : bytes[place];
        }

        int valueOf(int index) {
            return index < 0 || index >= count ? NONE : values[index];
        }

        int otherOf(int index) {
            return index < 0 || index >= count ? NONE : others[index];
        }

        private int skipBlanks(int from) {
            int place = from;
            while (place < length && byteAt(place) == ' ') {
                place++;
            }
            return place;
        }

        private void skipRemark() {
            if (byteAt(next) != '/') {
                return;
            }
            while (next < length && byteAt(next) != LINE_END) {
                next++;
            }
        }

        private int scanToken() {
            int c = byteAt(next);
            if (c == NONE) {
                return append(TEXT_END, next, 0, 0);
            }
            if (c == LINE_END) {
                return append(LINE_END, next + 1, 0, 0);
            }
            if (isLetter(c)) {
                return scanName();
            }
            if (isDigit(c)) {
                return scanNumber();
            }
            if (c == '"') {
                int code = byteAt(next + 1);
                return isPlain(code) ? append(LETTER, next + 2, code | 128, 0) : append(BAD, next + 1, 0, 0);
            }
            boolean isSign = SIGNS.indexOf((char) c) >= 0;
            return append(isSign ? c : BAD, next + 1, 0, 0);
        }

        private int append(int kind, int behind, int value, int other) {
            if (count < kinds.length) {
                kinds[count] = kind;
                starts[count] = next;
                values[count] = value;
                others[count] = other;
                count++;
            }
            next = behind;
            return kind;
        }

        private int scanName() {
            long letters = 0;
            int place = next;
            while (place < length && (isLetter(byteAt(place)) || isDigit(byteAt(place)))) {
                letters = Names.withLetter(letters, byteAt(place));
                place++;
            }
            if (place - next > LONGEST_NAME) {
                return append(BAD, place, 0, 0);
            }
            int number = names.numberOf(letters);
            if (number == Names.TEXT) {
                int first = skipBlanks(place);
                int mark = byteAt(first);
                if (mark != ',' && mark != '=') {
                    return scanText(first, mark);
                }
            }
            return append(NAME, place, number, 0);
        }

        private int scanText(int first, int mark) {
            if (!isPlain(mark)) {
                return append(BAD_TEXT, first, 0, 0);
            }
            for (int place = first + 1; place < length && isPlain(byteAt(place)); place++) {
                if (byteAt(place) == mark) {
                    return append(TEXT, place + 1, first + 1, place);
                }
            }
            return append(BAD_TEXT, first, 0, 0);
        }

        private int scanNumber() {
            int octal = 0;
            int decimal = 0;
            int place = next;
            while (place < length && place - next <= LONGEST_NUMBER && isDigit(byteAt(place))) {
                int digit = byteAt(place) - '0';
                octal = octal == NONE || digit > 7 ? NONE : octal * 8 + digit;
                decimal = decimal * 10 + digit;
                place++;
            }
            if (place - next > LONGEST_NUMBER) {
                return append(BAD, place, 0, 0);
            }
            return append(NUMBER, place, octal, decimal > MASK ? NONE : decimal);
        }

        private static boolean isLetter(int c) {
            return c >= 'A' && c <= 'Z';
        }

        private static boolean isDigit(int c) {
            return c >= '0' && c <= '9';
        }

        private static boolean isPlain(int c) {
            return c >= 32 && c <= 126;
        }
    }

    /** Goes twice over a text: tells its names, then makes its words. */
    private static final class Assembler {
        private static final int EQUATION = 256;
        private static final int REFERENCE = 257;
        /** A statement's kind is this and its name's number. */
        private static final int NAMED = 300;

        private final Names names = new Names();
        private final Tokens tokens = new Tokens(names);
        private Sheet sheet = new Sheet();
        private Sheet spare = new Sheet();
        private int fault = 0;
        private int faultPlace = NONE;
        private boolean makes = false;
        private boolean ended = false;
        private boolean decimal = false;
        private int at = 0;
        private int place = START;

        void open(int[] source, int length) {
            tokens.scan(source, length);
            spare.clear();
            fault = 0;
            faultPlace = NONE;
        }

        /** How many words are made; NONE with a fault, which leaves those before. */
        int close() {
            if (fault != 0) {
                return NONE;
            }
            Sheet old = sheet;
            sheet = spare;
            spare = old;
            return sheet.count;
        }

        void passOver(boolean making) {
            makes = making;
            ended = false;
            decimal = false;
            at = 0;
            place = START;
            for (int i = 0; i <= tokens.count && !ended && fault == 0; i++) {
                passLabels();
                passStatement();
                passEnd();
            }
        }

        private void report(int kind, int index) {
            if (fault == 0) {
                fault = kind;
                faultPlace = index < 0 || index >= tokens.count ? tokens.length : tokens.starts[index];
            }
        }

        private void refuse(int kind) {
            report(kind == Tokens.BAD ? NO_TOKEN : MISPLACED, at);
        }

        /** A number that its radix doesn't allow is no token. */
        private int kindAt(int index) {
            if (index < 0 || index >= tokens.count) {
                return Tokens.TEXT_END;
            }
            int kind = tokens.kinds[index];
            if (kind != Tokens.NUMBER) {
                return kind;
            }
            int number = decimal ? tokens.others[index] : tokens.values[index];
            return number == NONE ? Tokens.BAD : kind;
        }

        private static boolean isEnd(int kind) {
            return kind == ';' || kind == Tokens.LINE_END || kind == Tokens.TEXT_END;
        }

        private void passLabels() {
            for (int i = 0; i <= tokens.count && fault == 0; i++) {
                if (kindAt(at) != Tokens.NAME || kindAt(at + 1) != ',') {
                    return;
                }
                if (!makes && mayTell(Names.BY_COMMA)) {
                    names.tell(tokens.valueOf(at), place & MASK, Names.BY_COMMA);
                }
                at += 2;
            }
        }

        private boolean mayTell(int telling) {
            int before = names.tellingOf(tokens.valueOf(at));
            if (before == Names.FIXED) {
                report(RESERVED, at);
            } else if (before == Names.BY_COMMA || before == Names.BY_EQUALS && telling == Names.BY_COMMA) {
                report(TOLD_TWICE, at);
            } else if (before == Names.NOT_TOLD && names.toldCount >= Names.MOST_TOLD) {
                report(FULL, at);
            }
            return fault == 0;
        }

        private void passEnd() {
            if (fault != 0 || ended) {
                return;
            }
            int kind = kindAt(at);
            if (!isEnd(kind)) {
                refuse(kind);
            } else if (kind == Tokens.TEXT_END) {
                ended = true;
            } else {
                at++;
            }
        }

        private void passStatement() {
            int kind = kindAt(at);
            if (fault != 0 || isEnd(kind)) {
                return;
            }
            switch (kind == Tokens.NAME ? kindOfNamed() : kind) {
                case '$':
                    ended = true;
                    break;
                case '*':
                    passOrigin();
                    break;
                case EQUATION:
                    passEquation();
                    break;
                case NAMED + Names.PAGE:
                    passPage();
                    break;
                case NAMED + Names.DECIMAL:
                    passRadix(true);
                    break;
                case NAMED + Names.OCTAL:
                    passRadix(false);
                    break;
                case NAMED + Names.ZBLOCK:
                    passZeros();
                    break;
                case Tokens.TEXT:
                    passText();
                    break;
                case Tokens.BAD_TEXT:
                    report(NO_TOKEN, at);
                    break;
                case REFERENCE:
                    passReference();
                    break;
                default:
                    passWord();
                    break;
            }
        }

        private int kindOfNamed() {
            int name = tokens.valueOf(at);
            if (kindAt(at + 1) == '=') {
                return EQUATION;
            }
            if (isStatementName(name)) {
                return NAMED + name;
            }
            boolean isAlone = kindAt(at + 1) != '-' && beginsPart(at + 1);
            boolean refers = name >= Names.FIRST_REFERENCE && name <= Names.LAST_REFERENCE;
            return refers && isAlone ? REFERENCE : Tokens.NAME;
        }

        private void passRadix(boolean isDecimal) {
            decimal = isDecimal;
            at++;
        }

        private void passOrigin() {
            at++;
            int value = readValue(true);
            if (fault == 0) {
                place = value;
            }
        }

        private void passEquation() {
            int name = tokens.valueOf(at);
            if (!mayTell(Names.BY_EQUALS)) {
                return;
            }
            at += 2;
            int value = readValue(true);
            if (fault == 0) {
                names.tell(name, value, Names.BY_EQUALS);
            }
        }

        private void passPage() {
            at++;
            if (!beginsValue(at)) {
                place = (place + PAGE_WORDS - 1) / PAGE_WORDS * PAGE_WORDS;
                return;
            }
            int first = at;
            int value = readValue(true);
            if (fault != 0) {
                return;
            }
            if (value >= WORDS / PAGE_WORDS) {
                report(FULL, first);
            } else {
                place = value * PAGE_WORDS;
            }
        }

        private void passZeros() {
            int first = at;
            at++;
            int size = readValue(true);
            if (!mayLay(first, size)) {
                return;
            }
            for (int i = 0; makes && i < size; i++) {
                spare.lay(place + i, 0);
            }
            place += size;
        }

        private void passText() {
            int index = at;
            int from = tokens.valueOf(index);
            int behind = tokens.otherOf(index);
            int size = (behind - from) / 2 + 1;
            at++;
            if (!mayLay(index, size)) {
                return;
            }
            for (int i = 0; makes && i < size; i++) {
                int high = sixBits(from + 2 * i, behind);
                spare.lay(place + i, (high << 6) | sixBits(from + 2 * i + 1, behind));
            }
            place += size;
        }

        private int sixBits(int byteIndex, int behind) {
            return byteIndex < behind ? tokens.byteAt(byteIndex) & 077 : 0;
        }

        /** FULL, and a clash with a literal, are told behind what is in the statement, ahead of a token behind it. */
        private boolean mayLay(int first, int size) {
            if (fault == 0 && place + size > WORDS) {
                report(FULL, first);
            }
            if (fault == 0 && makes && spare.hasLiteral(place, size)) {
                report(NO_ROOM, first);
            }
            return fault == 0;
        }

        private static boolean isOperator(int kind) {
            return kind == '+' || kind == '-' || kind == '!' || kind == '&';
        }

        private static boolean isLiteralSign(int kind) {
            return kind == '(' || kind == '[';
        }

        private static boolean isStatementName(int name) {
            return name >= Names.PAGE && name <= Names.TEXT;
        }

        private boolean beginsValue(int index) {
            int kind = kindAt(index);
            if (kind == Tokens.NAME) {
                return !isStatementName(tokens.valueOf(index));
            }
            return kind == Tokens.NUMBER || kind == Tokens.LETTER || kind == '.' || kind == '-';
        }

        private boolean beginsPart(int index) {
            return beginsValue(index) || isLiteralSign(kindAt(index));
        }

        /** strict: its names must be told ahead, in the first pass too. */
        private int readValue(boolean strict) {
            int value = 0;
            int operator = '+';
            for (int i = 0; i <= tokens.count && fault == 0; i++) {
                boolean minus = kindAt(at) == '-';
                if (minus) {
                    at++;
                }
                int part = readPlain(strict);
                value = combine(value, operator, minus ? -part & MASK : part);
                operator = kindAt(at);
                if (!isOperator(operator)) {
                    break;
                }
                at++;
            }
            return value;
        }

        private static int combine(int a, int operator, int b) {
            switch (operator) {
                case '+':
                    return (a + b) & MASK;
                case '-':
                    return (a - b) & MASK;
                case '!':
                    return a | b;
                default:
                    return a & b;
            }
        }

        private int readPlain(boolean strict) {
            int index = at;
            int kind = kindAt(index);
            int value = tokens.valueOf(index);
            boolean isName = kind == Tokens.NAME && !isStatementName(value);
            if (!isName && kind != Tokens.NUMBER && kind != Tokens.LETTER && kind != '.') {
                report(kind == Tokens.BAD ? NO_TOKEN : MISPLACED, index);
                return 0;
            }
            at++;
            if (kind == '.') {
                return place & MASK;
            }
            if (kind == Tokens.NUMBER && decimal) {
                return tokens.otherOf(index);
            }
            if (!isName) {
                return value;
            }
            if ((strict || makes) && names.tellingOf(value) == Names.NOT_TOLD) {
                report(UNTOLD, index);
            }
            return names.valueOf(value);
        }

        /** A V, or a LITERAL, which counts as its address. */
        private int readItem() {
            int first = at;
            int sign = kindAt(first);
            if (!isLiteralSign(sign)) {
                return readValue(false);
            }
            at++;
            int value = readValue(false);
            if (fault == 0 && kindAt(at) == (sign == '(' ? ')' : ']')) {
                at++;
            }
            return literalFor(sign == '(' ? place & PAGE_BITS : 0, value, first);
        }

        private int literalFor(int page, int value, int index) {
            if (fault != 0 || !makes) {
                return 0;
            }
            int found = spare.literalPlace(page, value);
            if (found == NONE) {
                report(NO_ROOM, index);
                return 0;
            }
            return found;
        }

        private boolean mayBeginWord() {
            if (place >= WORDS) {
                report(FULL, at);
            } else if (makes && spare.hasLiteral(place, 1)) {
                report(NO_ROOM, at);
            } else if (makes) {
                // The word lies there before its own literals look for room.
                spare.lay(place, 0);
            }
            return fault == 0;
        }

        private void finishWord(int value) {
            if (fault == 0 && makes) {
                spare.lay(place, value);
            }
            place++;
        }

        private void passWord() {
            if (!beginsPart(at)) {
                refuse(kindAt(at));
                return;
            }
            if (!mayBeginWord()) {
                return;
            }
            int value = 0;
            boolean goesOn = true;
            for (int i = 0; i <= tokens.count && fault == 0 && goesOn; i++) {
                boolean isLast = isLiteralSign(kindAt(at));
                value |= readItem();
                goesOn = !isLast && beginsPart(at);
            }
            finishWord(value);
        }

        private void passReference() {
            if (!mayBeginWord()) {
                return;
            }
            int operation = names.valueOf(tokens.valueOf(at));
            at++;
            for (int i = 0; i <= tokens.count && isModifierAt(at); i++) {
                operation |= names.valueOf(tokens.valueOf(at));
                at++;
            }
            if (!beginsPart(at)) {
                finishWord(operation);
                return;
            }
            int first = at;
            int address = readItem();
            if (fault == 0 && !isLiteralSign(kindAt(first)) && beginsPart(at)) {
                report(MISPLACED, first);
            }
            finishWord(refer(operation, address, first));
        }

        private boolean isModifierAt(int index) {
            int name = tokens.valueOf(index);
            return kindAt(index) == Tokens.NAME && !isOperator(kindAt(index + 1))
                    && (name == Names.INDIRECT || name == Names.ZERO_PAGE);
        }

        private int refer(int operation, int address, int index) {
            if (fault != 0 || !makes) {
                return 0;
            }
            if (address < PAGE_WORDS || (address & PAGE_BITS) == (place & PAGE_BITS)) {
                return operation | inPage(address);
            }
            if ((operation & 0400) != 0) {
                report(NO_PAGE, index);
                return 0;
            }
            return operation | 0400 | inPage(literalFor(place & PAGE_BITS, address, index));
        }

        private static int inPage(int address) {
            return address < PAGE_WORDS ? address : 0200 | (address & 0177);
        }
    }
}
