import java.util.Random;

/** No call may throw, whatever it is given: random calls and texts, with a fixed seed. */
public final class QuietTest {
    private static final Check CHECK = new Check("QuietTest");
    private static final String BYTES = "ABCIZ0127890 \n\n;;,,**==+-!&..(([])$\"/TAD I JMP LOOP TEXT PAGE ZBLOCK DECIMAL #a\t";
    private static final String[] PARTS = {"TAD ", "JMP I ", "(", "[", "A", "B", "C", ",", "=", "*", "200", "7777", "+", "-",
        "PAGE ", "ZBLOCK ", "TEXT /AB/", "TEXT ", "DECIMAL", "OCTAL", ";", "\n", "\n", " ", "$", "\"", "9", ".", "RDB;", "WRB;", "TLS;",
        "KRB;", "SLEEP;", "DVI;", "SHL;", "7405;", "CLA "};
    private static final int[] EDGES = {Integer.MIN_VALUE, -2, -1, 0, 1, 2, 3, 4, 5, 6, 7, 8, 9, 10, 14, 15, 63, 64, 65, 127, 128, 129,
        499, 500, 501, 2000, 2001, 4094, 4095, 4096, 20000, 20001, Integer.MAX_VALUE};

    public static void main(String[] args) {
        Random random = new Random(8);
        for (int i = 0; i < 160; i++) {
            ShareEight x = new ShareEight(any(random), any(random), any(random), any(random));
            for (int calls = 0; calls < 150; calls++) {
                call(x, random);
            }
            CHECK.due("the time goes on", x.look(0) >= 0, true);
        }
        CHECK.finish();
    }

    private static int any(Random random) {
        return random.nextInt(8) == 0 ? random.nextInt() : EDGES[random.nextInt(EDGES.length)];
    }

    private static String source(Random random) {
        StringBuilder text = new StringBuilder();
        int size = random.nextInt(60);
        for (int i = 0; i < size; i++) {
            if (random.nextInt(4) > 0) {
                text.append(PARTS[random.nextInt(PARTS.length)]);
            } else if (random.nextInt(20) > 0) {
                text.append(BYTES.charAt(random.nextInt(BYTES.length())));
            } else {
                text.append((char) random.nextInt(256));
            }
        }
        return text.toString();
    }

    private static void call(ShareEight x, Random random) {
        int u = random.nextInt(6);
        int a = any(random);
        int b = any(random);
        switch (random.nextInt(22)) {
            case 0 -> x.feed(a, b, random.nextInt(), random.nextInt(), 0);
            case 1 -> x.end(a);
            case 2 -> {
                x.end(0);
                int words = Check.assemble(x, source(random));
                CHECK.due("words or a fault", words == ShareEight.NONE, x.fault(0) > 0);
                CHECK.due("a place of a fault", x.fault(1) >= 0, x.fault(0) > 0);
            }
            case 3 -> x.mount(u);
            case 4 -> x.begin(u, random.nextInt(4096));
            case 5 -> x.begin(a, b);
            case 6 -> x.halt(u);
            case 7 -> x.key(u, b);
            case 8 -> x.set(u, b);
            case 9 -> x.deposit(u, random.nextInt(4096), random.nextInt(4096));
            case 10 -> x.deposit(a, b, any(random));
            case 11 -> x.run(Math.min(a, 3000));
            case 12 -> x.run(1 + random.nextInt(600));
            case 13 -> x.user(a, b);
            case 14 -> x.look(a);
            case 15 -> x.word(a, b) ;
            case 16 -> x.core(a, b);
            case 17 -> x.drum(a, b);
            case 18 -> x.slot(a, b);
            case 19 -> x.block(a, b, any(random));
            case 20 -> x.paper(a, b);
            default -> {
                x.made(a);
                x.fault(b);
                x.mount(a);
                x.halt(b);
                x.key(a, b);
                x.set(a, b);
            }
        }
    }
}
