/** Promises 1 to 6: a new object, add, read, prefer, post, release. */
public final class ProgramsTest {
    private static final Checks CHECKS = new Checks("ProgramsTest");
    private static final int[] NO_CONTEXTS = {-1, 8, Integer.MIN_VALUE, Integer.MAX_VALUE};

    public static void main(String[] args) {
        newObject();
        addAnswers();
        addErrors();
        addBehindTheLast();
        addWhileDoneAndAsleep();
        readResets();
        readKeeps();
        readOfFaults();
        prefer();
        post();
        release();
        CHECKS.end();
    }

    private static void due(String call, long got, long want) {
        CHECKS.due(call, got, want);
    }

    private static void newObject() {
        TurnSlots x = new TurnSlots();
        for (int context = 0; context < 8; context++) {
            for (int what = 0; what < 14; what++) {
                due("1 new of " + context + " " + what, x.of(context, what), 0);
            }
            due("1 new inbox", x.inbox(context, 0), TurnSlots.NO_SUCH);
            due("1 new command", x.command(context, 0, 0), TurnSlots.NO_SUCH);
        }
        for (int lock = 0; lock < 4; lock++) {
            due("1 new holder", x.holder(lock), TurnSlots.NONE);
        }
        int[] counts = {0, 8, 0, 0, 0, 0, 0, TurnSlots.NONE, 0, 0};
        for (int what = 0; what < counts.length; what++) {
            due("1 new count " + what, x.count(what), counts[what]);
        }
        due("1 new undo", x.undo(), TurnSlots.NOT_POSSIBLE);
        due("1 new restore 0", x.restore(0), TurnSlots.NOT_POSSIBLE);
        due("1 new restore 1", x.restore(1), TurnSlots.NOT_POSSIBLE);
        due("1 new fault", x.fault(), 0);
    }

    private static void addAnswers() {
        TurnSlots x = new TurnSlots();
        for (int i = 0; i < 16; i++) {
            due("2 add", x.add(3, TurnSlots.ADD, i), i + 1);
            due("2 add is a change", x.count(9), Math.min(6, i + 1));
        }
        due("2 add the 17th", x.add(3, TurnSlots.ADD, 0), TurnSlots.TOO_MANY);
        due("2 bad before too many", x.add(3, TurnSlots.ADD, 100), TurnSlots.BAD_VALUE);
        due("2 sixteen stay", x.of(3, 0), 16);
        due("2 others have none", x.of(2, 0), 0);
        for (int i = 0; i < 16; i++) {
            due("2 command", x.command(3, i, 0), TurnSlots.ADD);
            due("2 command n", x.command(3, i, 1), i);
            due("2 command mark", x.command(3, i, 2), 0);
        }
        due("2 no 17th", x.command(3, 16, 0), TurnSlots.NO_SUCH);
    }

    private static void addErrors() {
        int[] least = {0, 0, 0, 0, 0, 0, 1};
        int[] greatest = {99, 7, 0, 3, 3, 99, 15};
        TurnSlots x = new TurnSlots();
        for (int context : NO_CONTEXTS) {
            due("2 no context", x.add(context, -1, -1), TurnSlots.NO_SUCH);
        }
        for (int command : new int[] {-1, 7, Integer.MIN_VALUE, Integer.MAX_VALUE}) {
            due("2 no command", x.add(0, command, 0), TurnSlots.BAD_VALUE);
        }
        for (int command = 0; command < 7; command++) {
            due("2 n too small", x.add(0, command, least[command] - 1), TurnSlots.BAD_VALUE);
            due("2 n too great", x.add(0, command, greatest[command] + 1), TurnSlots.BAD_VALUE);
            due("2 n far too small", x.add(0, command, Integer.MIN_VALUE), TurnSlots.BAD_VALUE);
            due("2 n far too great", x.add(0, command, Integer.MAX_VALUE), TurnSlots.BAD_VALUE);
        }
        due("2 errors change nothing", x.count(9), 0);
        for (int command = 0; command < 7; command++) {
            due("2 least n", x.add(1, command, least[command]), 2 * command + 1);
            due("2 greatest n", x.add(1, command, greatest[command]), 2 * command + 2);
            due("2 command of it", x.command(1, 2 * command + 1, 0), command);
            due("2 n of it", x.command(1, 2 * command + 1, 1), greatest[command]);
        }
    }

    private static void addBehindTheLast() {
        TurnSlots x = Checks.machine("0:a1");
        due("2 run", x.run(), 1);
        due("2 done", x.of(0, 7), 0);
        due("2 add behind the last", x.add(0, TurnSlots.ADD, 5), 2);
        due("2 ready again", x.of(0, 7), 1);
        due("2 its place stays", x.of(0, 1), 1);
        due("2 runs it", x.step(1), 0);
        due("2 sum", x.of(0, 2), 6);
    }

    private static void addWhileDoneAndAsleep() {
        TurnSlots x = Checks.machine("0:w5");
        due("2 step", x.step(1), 0);
        due("2 done though asleep", x.of(0, 7), 0);
        due("2 still sleeps", x.of(0, 6), 5);
        x.add(0, TurnSlots.ADD, 1);
        due("2 sleeps now", x.of(0, 7), 2);
        due("2 nobody next", x.count(7), TurnSlots.NONE);
        due("2 idle", x.step(4), TurnSlots.NONE);
        due("2 next", x.count(7), 0);
        due("2 wakes", x.step(1), 0);
    }

    private static void readResets() {
        TurnSlots x = Checks.machine("2:a7,b1,w90,a1");
        x.step(20);
        due("3 place before", x.of(2, 1), 3);
        due("3 sum before", x.of(2, 2), 14);
        due("3 asleep before", x.of(2, 7), 2);
        due("3 write", Checks.write(x, "2:a1,b1,t"), 9);
        due("3 read", x.read(), 2);
        due("3 the pad is empty", x.count(8), 0);
        due("3 commands", x.of(2, 0), 3);
        due("3 place", x.of(2, 1), 0);
        due("3 sum", x.of(2, 2), 0);
        due("3 does not sleep", x.of(2, 6), 0);
        due("3 ready", x.of(2, 7), 1);
        due("3 is a change", x.count(9), 3);
        due("3 its command 1", x.command(2, 1, 0), TurnSlots.BACK);
        due("3 its n", x.command(2, 1, 1), 1);
        x.step(2);
        due("3 mark on", x.command(2, 1, 2), 1);
        Checks.give(x, "2:a1,b1");
        due("3 marks off", x.command(2, 1, 2), 0);
        due("3 an empty program", Checks.give(x, "2:"), 2);
        due("3 no commands", x.of(2, 0), 0);
        due("3 no command 0", x.command(2, 0, 0), TurnSlots.NO_SUCH);
        due("3 done", x.of(2, 7), 0);
        due("3 whole", Checks.give(x, "7:a0,s7,t,l3,f0,w99,b15,a99,s0,l0,f3,w0,b1,a10,t,a9"), 7);
        int[] kinds = {0, 1, 2, 3, 4, 5, 6, 0, 1, 3, 4, 5, 6, 0, 2, 0};
        int[] numbers = {0, 7, 0, 3, 0, 99, 15, 99, 0, 0, 3, 0, 1, 10, 0, 9};
        for (int i = 0; i < 16; i++) {
            due("3 kind " + i, x.command(7, i, 0), kinds[i]);
            due("3 number " + i, x.command(7, i, 1), numbers[i]);
        }
    }

    private static void readKeeps() {
        TurnSlots x = Checks.machine("1:l2,a3");
        x.post(1, 44);
        x.post(1, 45);
        x.prefer(1, 6);
        x.step(3);
        due("3 read again", Checks.give(x, "1:t"), 1);
        due("3 the inbox stays", x.of(1, 5), 2);
        due("3 its first", x.inbox(1, 0), 44);
        due("3 its second", x.inbox(1, 1), 45);
        due("3 the priority stays", x.of(1, 3), 6);
        due("3 the lock stays", x.holder(2), 1);
        due("3 accounts stay, own", x.of(1, 10), 1);
        due("3 accounts stay, others", x.of(1, 11), 1);
        due("3 other contexts stay", x.of(0, 12), 1);
        due("3 slots stay", x.count(0), 3);
    }

    private static void readOfFaults() {
        TurnSlots x = Checks.machine("4:a5");
        String[] faults = {"4:a6,", "4", "8:", "4:a100", "4;a1", "x", "4:b0"};
        due("3 empty pad", x.read(), TurnSlots.BAD_TEXT);
        for (String text : faults) {
            x.wipe();
            int length = Checks.write(x, text);
            due("3 read " + text, x.read(), TurnSlots.BAD_TEXT);
            due("3 the pad stays", x.count(8), length);
        }
        due("3 no change", x.count(9), 1);
        due("3 program stays", x.command(4, 0, 1), 5);
    }

    private static void prefer() {
        TurnSlots x = new TurnSlots();
        for (int context : NO_CONTEXTS) {
            due("4 no context", x.prefer(context, 10), TurnSlots.NO_SUCH);
        }
        for (int priority : new int[] {-1, 10, Integer.MIN_VALUE, Integer.MAX_VALUE}) {
            due("4 no priority", x.prefer(7, priority), TurnSlots.BAD_VALUE);
        }
        due("4 errors change nothing", x.count(9), 0);
        due("4 prefer", x.prefer(7, 9), 0);
        due("4 previous", x.prefer(7, 4), 9);
        due("4 the same", x.prefer(7, 4), 4);
        due("4 the same is a change", x.count(9), 3);
        due("4 back", x.prefer(7, 0), 4);
        due("4 own", x.of(7, 3), 0);
        x.prefer(0, 3);
        due("4 own of 0", x.of(0, 3), 3);
        due("4 own of 7", x.of(7, 3), 0);
    }

    private static void post() {
        TurnSlots x = new TurnSlots();
        for (int context : NO_CONTEXTS) {
            due("5 no context", x.post(context, -1), TurnSlots.NO_SUCH);
        }
        for (int number : new int[] {-1, 1000, Integer.MIN_VALUE, Integer.MAX_VALUE}) {
            due("5 no number", x.post(0, number), TurnSlots.BAD_VALUE);
        }
        due("5 errors change nothing", x.count(9), 0);
        due("5 post 0", x.post(0, 0), 1);
        due("5 post 999", x.post(0, 999), 2);
        due("5 post 5", x.post(0, 5), 3);
        due("5 post 6", x.post(0, 6), 4);
        due("5 post a fifth", x.post(0, 7), TurnSlots.TOO_MANY);
        due("5 bad before too many", x.post(0, 1000), TurnSlots.BAD_VALUE);
        due("5 changes", x.count(9), 4);
        due("5 first", x.inbox(0, 0), 0);
        due("5 second", x.inbox(0, 1), 999);
        due("5 fourth", x.inbox(0, 3), 6);
        due("5 another inbox", x.of(1, 5), 0);
        due("5 post to another", x.post(1, 1), 1);
        Checks.give(x, "0:a1,t,t");
        x.step(10);
        due("5 takes the first numbers", x.of(0, 2), 0);
        due("5 the third is first", x.inbox(0, 0), 5);
        due("5 post behind", x.post(0, 8), 3);
        due("5 it is last", x.inbox(0, 2), 8);
    }

    private static void release() {
        TurnSlots x = Checks.machine("3:l0,l3", "5:l0");
        for (int lock : new int[] {-1, 4, Integer.MIN_VALUE, Integer.MAX_VALUE}) {
            due("6 no lock", x.release(lock), TurnSlots.NO_SUCH);
        }
        due("6 a free lock", x.release(0), TurnSlots.NOT_POSSIBLE);
        due("6 errors change nothing", x.count(9), 2);
        x.step(4);
        due("6 held", x.holder(0), 3);
        due("6 held though done", x.of(3, 7), 0);
        due("6 waits", x.of(5, 7), 3);
        due("6 release", x.release(0), 3);
        due("6 is a change", x.count(9), 4);
        due("6 free", x.holder(0), TurnSlots.NONE);
        due("6 the other stays", x.holder(3), 3);
        due("6 ready", x.of(5, 7), 1);
        due("6 twice", x.release(0), TurnSlots.NOT_POSSIBLE);
        due("6 the greatest lock", x.release(3), 3);
    }
}
