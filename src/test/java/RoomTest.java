import java.lang.management.ManagementFactory;

/** All calls of a run live in one room: the dearest 512 calls must make next to nothing. */
public final class RoomTest {
    private static final int MOST_BYTES_A_CALL = 1500;
    private static final int MOST_BYTES_AN_OBJECT = 200000;
    private static final String REALM = "realm 9 9;question 99 0 60;question 98 0 60;question 97 0 60;question 96 0 60;"
            + "question 95 0 60;question 94 0 60;question 93 0 60;question 92 0 60;alike 0 7;wakes 9";
    private static final String RULE = "ask brings if [left<1 or kept>8] and day>50;ask bundle if wasted>9";
    private static final String[] CALLS = {"realm", "rule", "day", "undo", "row", "bind", "rescue", "waste", "woke",
        "look", "reigns", "image", "back"};

    private RoomTest() {
    }

    public static void main(String[] args) {
        int wrong = 0;
        for (String call : CALLS) {
            OneDecision warm = ready();
            make(warm, call);
            long before = made();
            OneDecision x = ready();
            long object = made() - before;
            before = made();
            for (int i = 0; i < 100; i++) {
                make(x, call);
            }
            long each = (made() - before) / 100;
            if (each > MOST_BYTES_A_CALL || object > MOST_BYTES_AN_OBJECT) {
                wrong++;
                System.out.println(call + " makes " + each + " bytes a call, an object " + object);
            }
        }
        System.exit(wrong == 0 ? 0 : 1);
    }

    private static long made() {
        return ((com.sun.management.ThreadMXBean) ManagementFactory.getThreadMXBean()).getCurrentThreadAllocatedBytes();
    }

    private static OneDecision ready() {
        OneDecision x = new OneDecision();
        Texts.realm(x, REALM);
        Texts.rule(x, RULE);
        x.force(0);
        for (int k = 0; k < 4; k++) {
            x.image(k);
        }
        return x;
    }

    private static void make(OneDecision x, String call) {
        switch (call) {
            case "realm" -> {
                x.feed(0x7265616c, 0x6d203020, 0x30202020, 0x20202020, 0x20202020);
                x.realm();
            }
            case "rule" -> {
                x.feed(0x61736b20, 0x31202020, 0x20202020, 0x20202020, 0x20202020);
                x.rule();
                x.end(0);
            }
            case "day" -> x.day();
            case "undo" -> {
                x.egg();
                x.undo();
            }
            case "row" -> x.row(4, 0);
            case "bind" -> x.bind(60, 0);
            case "rescue" -> x.rescue(60, 0);
            case "waste" -> x.waste(20, 0);
            case "woke" -> x.woke(0, 60, 800, 0);
            case "look" -> x.look(0);
            case "reigns" -> x.reigns(10, 60, 50, 0);
            case "image" -> x.image(2);
            default -> x.back(2);
        }
    }
}
