import java.util.Random;

/** All promises: runs of 512 calls, drawn with fixed seeds, on the class and on the model of the document. */
public final class RandomRunsTest {
    private static final Checks CHECKS = new Checks("RandomRunsTest");
    private static final int RUNS = 1500;
    private static final int CALLS = 512;
    /** A text of 18 commands is written by ten calls, and wiped, spoilt, asked and read by four. */
    private static final int MOST_AT_ONCE = 14;

    private final Random random;
    private final TurnSlots object = new TurnSlots();
    private final Model model = new Model();
    /** Few contexts and locks in a run make them meet more often. */
    private final int contexts;
    private final int locks;
    private final boolean sleepy;
    private final String name;

    private RandomRunsTest(int seed) {
        random = new Random(seed);
        contexts = 1 + random.nextInt(8);
        locks = 1 + random.nextInt(4);
        sleepy = random.nextInt(4) == 0;
        name = "seed " + seed + ", call ";
    }

    public static void main(String[] args) {
        int runs = args.length > 0 ? Integer.parseInt(args[0]) : RUNS;
        for (int seed = 0; seed < runs && CHECKS.allAsDue(); seed++) {
            RandomRunsTest run = new RandomRunsTest(seed);
            for (int call = 0; call < CALLS && CHECKS.allAsDue(); ) {
                call += call > CALLS - MOST_AT_ONCE ? run.oneCall(call) : run.someCalls(call);
            }
        }
        CHECKS.end();
    }

    private void due(int call, String what, long got, long want) {
        CHECKS.due(name + call + ": " + what, got, want);
    }

    private int below(int bound) {
        return random.nextInt(bound);
    }

    /** A number below the bound, or now and then one that is none. */
    private int mostly(int bound) {
        if (below(60) != 0) {
            return below(bound);
        }
        int[] odd = {-1, bound, bound + 1, Integer.MIN_VALUE, Integer.MAX_VALUE, bound - 1};
        return odd[below(odd.length)];
    }

    private int context() {
        return below(60) == 0 ? mostly(8) : below(contexts);
    }

    private int numberFor(int kind) {
        switch (kind) {
            case TurnSlots.SEND: return context();
            case TurnSlots.TAKE: return below(40) == 0 ? 1 : 0;
            case TurnSlots.LOCK: case TurnSlots.FREE: return below(60) == 0 ? mostly(4) : below(locks);
            case TurnSlots.WAIT: return sleepy ? mostly(100) : below(5);
            case TurnSlots.BACK: return below(40) == 0 ? mostly(17) : 1 + below(6);
            default: return mostly(100);
        }
    }

    private int someCalls(int call) {
        return below(100) < 14 ? writeAndRead(call) : oneCall(call);
    }

    private int oneCall(int call) {
        int kind = below(86);
        if (kind < 10) {
            int context = context();
            int command = mostly(7);
            int n = numberFor(command);
            due(call, "add(" + context + ", " + command + ", " + n + ")", object.add(context, command, n), model.add(context, command, n));
        } else if (kind < 16) {
            int context = context();
            int priority = mostly(10);
            due(call, "prefer(" + context + ", " + priority + ")", object.prefer(context, priority), model.prefer(context, priority));
        } else if (kind < 20) {
            int context = context();
            int number = mostly(1000);
            due(call, "post(" + context + ", " + number + ")", object.post(context, number), model.post(context, number));
        } else if (kind < 22) {
            int lock = mostly(4);
            due(call, "release(" + lock + ")", object.release(lock), model.release(lock));
        } else if (kind < 38) {
            int slots = below(20) == 0 ? mostly(201) : 1 + below(6);
            due(call, "step(" + slots + ")", object.step(slots), model.step(slots));
        } else if (kind < 40) {
            due(call, "run()", object.run(), model.run());
        } else if (kind < 46) {
            whatIf(call);
        } else if (kind < 52) {
            history(call);
        } else {
            ask(call);
        }
        return 1;
    }

    private void whatIf(int call) {
        int context = context();
        if (below(3) == 0) {
            due(call, "slotsLeft()", object.slotsLeft(), model.slotsLeft());
        } else if (below(2) == 0) {
            int other = context();
            int priority = mostly(10);
            due(call, "leftIf(" + context + ", " + other + ", " + priority + ")", object.leftIf(context, other, priority),
                model.leftIf(context, other, priority));
        } else {
            int slots = mostly(201);
            due(call, "sumBehind(" + context + ", " + slots + ")", object.sumBehind(context, slots), model.sumBehind(context, slots));
        }
    }

    private void history(int call) {
        int slot = mostly(2);
        switch (below(8)) {
            case 0: due(call, "save(" + slot + ")", object.save(slot), model.save(slot)); break;
            case 1: due(call, "restore(" + slot + ")", object.restore(slot), model.restore(slot)); break;
            default: due(call, "undo()", object.undo(), model.undo()); break;
        }
    }

    private void ask(int call) {
        int context = context();
        int what = mostly(14);
        switch (below(5)) {
            case 0: due(call, "count(" + what + ")", object.count(what), model.count(what)); break;
            case 1: {
                int place = mostly(8);
                int part = mostly(3);
                due(call, "command(" + context + ", " + place + ", " + part + ")", object.command(context, place, part),
                    model.command(context, place, part));
                break;
            }
            case 2: {
                int place = mostly(4);
                if (below(2) == 0) {
                    due(call, "inbox(" + context + ", " + place + ")", object.inbox(context, place), model.inbox(context, place));
                } else {
                    due(call, "holder(" + place + ")", object.holder(place), model.holder(place));
                }
                break;
            }
            default: due(call, "of(" + context + ", " + what + ")", object.of(context, what), model.of(context, what)); break;
        }
    }

    private String text() {
        StringBuilder text = new StringBuilder();
        text.append(context()).append(':');
        int commands = below(20) == 0 ? below(19) : 1 + below(6);
        for (int i = 0; i < commands; i++) {
            int kind = below(7);
            text.append(i == 0 ? "" : ",").append("astlfwb".charAt(kind));
            if (kind != TurnSlots.TAKE) {
                text.append(numberFor(kind));
            }
        }
        if (below(8) == 0) {
            String signs = "0123456789:,astlfwb!~";
            text.setCharAt(below(text.length()), signs.charAt(below(signs.length())));
        }
        if (below(16) == 0) {
            text.setLength(below(text.length()));
        }
        return text.toString();
    }

    private int put(int call, long number) {
        due(call, "put(" + number + "L)", object.put(number), model.put(number));
        return 1;
    }

    private int writeAndRead(int call) {
        int calls = 0;
        if (below(30) != 0) {
            due(call, "wipe()", object.wipe(), model.wipe());
            calls++;
        }
        if (below(30) == 0) {
            long number = random.nextLong() >>> 8 * below(9);
            calls += put(call + calls, below(2) == 0 ? number : number & 0x7F7F7F7F7F7F7F7FL);
        }
        String text = text();
        for (int from = 0; from < text.length(); from += 8) {
            calls += put(call + calls, Checks.number(text.substring(from, Math.min(text.length(), from + 8))));
        }
        if (below(3) == 0) {
            due(call + calls, "fault() of " + text, object.fault(), model.fault());
            calls++;
        }
        due(call + calls, "read() of " + text, object.read(), model.read());
        return calls + 1;
    }
}
