import java.util.ArrayDeque;
import java.util.ArrayList;
import java.util.Deque;
import java.util.HashSet;
import java.util.List;
import java.util.Set;
import java.util.regex.Matcher;
import java.util.regex.Pattern;

/** The document once more, sentence by sentence and without regard to speed, to compare the class with. */
final class Model {
    private static final int NO_SUCH = -1, BAD_VALUE = -2, BAD_TEXT = -3, TOO_MANY = -4, NOT_POSSIBLE = -5, NONE = -6;

    private static final String COMMAND = "(?:[aw](?:0|[1-9][0-9]?)|s[0-7]|t|[lf][0-3]|b(?:1[0-5]|[1-9]))";
    private static final Pattern TEXT = Pattern.compile("[0-7]:(?:" + COMMAND + "(?:," + COMMAND + "){0,15})?");

    private static final class Command {
        final int kind;
        final int n;
        boolean on;

        Command(int kind, int n, boolean on) {
            this.kind = kind;
            this.n = n;
            this.on = on;
        }
    }

    private static final class Context {
        List<Command> program = new ArrayList<>();
        Deque<Integer> inbox = new ArrayDeque<>();
        int place;
        int sum;
        int priority;
        int asleep;
        int ranInOwn;
        int ranInOthers;
        int gaveAway;
        int idled;

        Context copy() {
            Context copy = new Context();
            for (Command command : program) {
                copy.program.add(new Command(command.kind, command.n, command.on));
            }
            copy.inbox.addAll(inbox);
            copy.place = place;
            copy.sum = sum;
            copy.priority = priority;
            copy.asleep = asleep;
            copy.ranInOwn = ranInOwn;
            copy.ranInOthers = ranInOthers;
            copy.gaveAway = gaveAway;
            copy.idled = idled;
            return copy;
        }

        boolean done() {
            return place == program.size();
        }

        Command next() {
            return program.get(place);
        }
    }

    private static final class State {
        List<Context> contexts = new ArrayList<>();
        Integer[] holders = new Integer[4];
        int slots;

        State copy() {
            State copy = new State();
            for (Context context : contexts) {
                copy.contexts.add(context.copy());
            }
            copy.holders = holders.clone();
            copy.slots = slots;
            return copy;
        }

        boolean allDone() {
            return contexts.stream().allMatch(Context::done);
        }

        boolean blocked(Context c) {
            Command next = c.next();
            return next.kind == 1 && contexts.get(next.n).inbox.size() == 4
                || next.kind == 2 && c.inbox.isEmpty()
                || next.kind == 3 && holders[next.n] != null;
        }

        boolean ready(int c) {
            Context context = contexts.get(c);
            return !context.done() && context.asleep == 0 && !blocked(context);
        }

        Set<Integer> waitsFor(int c) {
            Set<Integer> set = new HashSet<>();
            Context context = contexts.get(c);
            if (context.done() || context.asleep > 0 || !blocked(context)) {
                return set;
            }
            if (context.next().kind == 3) {
                set.add(holders[context.next().n]);
            } else if (context.next().kind == 1) {
                set.add(context.next().n);
            } else {
                for (int d = 0; d < 8; d++) {
                    Context other = contexts.get(d);
                    boolean sends = other.program.subList(other.place, other.program.size()).stream()
                        .anyMatch(command -> command.kind == 1 && command.n == c);
                    if (d != c && !other.done() && sends) {
                        set.add(d);
                    }
                }
            }
            return set;
        }

        /** All that can be come to from c by waiting, in one step or more. */
        Set<Integer> cameTo(int c) {
            Set<Integer> found = new HashSet<>();
            Deque<Integer> open = new ArrayDeque<>(waitsFor(c));
            while (!open.isEmpty()) {
                int d = open.pop();
                if (found.add(d)) {
                    open.addAll(waitsFor(d));
                }
            }
            return found;
        }

        int lent(int c) {
            int lent = contexts.get(c).priority;
            for (int d = 0; d < 8; d++) {
                if (cameTo(d).contains(c)) {
                    lent = Math.max(lent, contexts.get(d).priority);
                }
            }
            return lent;
        }

        boolean inRing(int c) {
            return cameTo(c).contains(c);
        }

        boolean stuck() {
            for (int c = 0; c < 8; c++) {
                Context context = contexts.get(c);
                if (ready(c) || !context.done() && context.asleep > 0) {
                    return false;
                }
            }
            return !allDone();
        }

        int slot() {
            for (Context context : contexts) {
                if (context.asleep > 0) {
                    context.asleep--;
                }
            }
            int owner = slots % 8;
            slots++;
            int who = NONE;
            if (ready(owner)) {
                who = owner;
                contexts.get(owner).ranInOwn++;
            } else {
                for (int c = owner + 7; c > owner; c--) {
                    if (ready(c % 8) && (who == NONE || lent(c % 8) >= lent(who))) {
                        who = c % 8;
                    }
                }
                if (who == NONE) {
                    contexts.get(owner).idled++;
                } else {
                    contexts.get(owner).gaveAway++;
                    contexts.get(who).ranInOthers++;
                }
            }
            if (who != NONE) {
                execute(who);
            }
            return who;
        }

        private void execute(int c) {
            Context context = contexts.get(c);
            Command command = context.next();
            int place = context.place + 1;
            if (command.kind == 0) {
                context.sum = (context.sum + command.n) % 1000;
            } else if (command.kind == 1) {
                contexts.get(command.n).inbox.addLast(context.sum);
            } else if (command.kind == 2) {
                context.sum = (context.sum + context.inbox.removeFirst()) % 1000;
            } else if (command.kind == 3) {
                holders[command.n] = c;
            } else if (command.kind == 4) {
                if (holders[command.n] != null && holders[command.n] == c) {
                    holders[command.n] = null;
                }
            } else if (command.kind == 5) {
                context.asleep = command.n;
            } else {
                if (!command.on) {
                    place = Math.max(0, context.place - command.n);
                }
                command.on = !command.on;
            }
            context.place = place;
        }
    }

    private State now = new State();
    private Deque<State> past = new ArrayDeque<>();
    private State[] saved = new State[2];
    private String pad = "";

    Model() {
        for (int i = 0; i < 8; i++) {
            now.contexts.add(new Context());
        }
    }

    private void change() {
        past.addLast(now.copy());
        if (past.size() > 6) {
            past.removeFirst();
        }
    }

    private static boolean in(int value, int least, int greatest) {
        return least <= value && value <= greatest;
    }

    int add(int context, int command, int n) {
        if (!in(context, 0, 7)) {
            return NO_SUCH;
        }
        boolean good = switch (command) {
            case 0, 5 -> in(n, 0, 99);
            case 1 -> in(n, 0, 7);
            case 2 -> n == 0;
            case 3, 4 -> in(n, 0, 3);
            case 6 -> in(n, 1, 15);
            default -> false;
        };
        if (!good) {
            return BAD_VALUE;
        }
        if (now.contexts.get(context).program.size() == 16) {
            return TOO_MANY;
        }
        change();
        now.contexts.get(context).program.add(new Command(command, n, false));
        return now.contexts.get(context).program.size();
    }

    int read() {
        if (fault() != NONE) {
            return BAD_TEXT;
        }
        change();
        int c = pad.charAt(0) - '0';
        Context context = now.contexts.get(c);
        context.program.clear();
        String rest = pad.substring(2);
        if (!rest.isEmpty()) {
            for (String part : rest.split(",")) {
                int n = part.length() == 1 ? 0 : Integer.parseInt(part.substring(1));
                context.program.add(new Command("astlfwb".indexOf(part.charAt(0)), n, false));
            }
        }
        context.place = 0;
        context.sum = 0;
        context.asleep = 0;
        pad = "";
        return c;
    }

    int prefer(int context, int priority) {
        if (!in(context, 0, 7)) {
            return NO_SUCH;
        }
        if (!in(priority, 0, 9)) {
            return BAD_VALUE;
        }
        change();
        int previous = now.contexts.get(context).priority;
        now.contexts.get(context).priority = priority;
        return previous;
    }

    int post(int context, int number) {
        if (!in(context, 0, 7)) {
            return NO_SUCH;
        }
        if (!in(number, 0, 999)) {
            return BAD_VALUE;
        }
        if (now.contexts.get(context).inbox.size() == 4) {
            return TOO_MANY;
        }
        change();
        now.contexts.get(context).inbox.addLast(number);
        return now.contexts.get(context).inbox.size();
    }

    int release(int lock) {
        if (!in(lock, 0, 3)) {
            return NO_SUCH;
        }
        if (now.holders[lock] == null) {
            return NOT_POSSIBLE;
        }
        change();
        int previous = now.holders[lock];
        now.holders[lock] = null;
        return previous;
    }

    int step(int slots) {
        if (!in(slots, 1, 200)) {
            return BAD_VALUE;
        }
        if (now.slots + slots > 100000) {
            return TOO_MANY;
        }
        change();
        int last = NONE;
        for (int i = 0; i < slots; i++) {
            last = now.slot();
        }
        return last;
    }

    int run() {
        if (now.slots > 99000) {
            return TOO_MANY;
        }
        change();
        int slots = 0;
        while (!now.allDone() && !now.stuck() && slots < 1000) {
            now.slot();
            slots++;
        }
        return slots;
    }

    int of(int c, int what) {
        if (!in(c, 0, 7)) {
            return NO_SUCH;
        }
        Context context = now.contexts.get(c);
        return switch (what) {
            case 0 -> context.program.size();
            case 1 -> context.place;
            case 2 -> context.sum;
            case 3 -> context.priority;
            case 4 -> now.lent(c);
            case 5 -> context.inbox.size();
            case 6 -> context.asleep;
            case 7 -> context.done() ? 0 : now.ready(c) ? 1 : context.asleep > 0 ? 2 : context.next().kind == 3 ? 3
                : context.next().kind == 2 ? 4 : 5;
            case 8 -> mask(now.waitsFor(c));
            case 9 -> now.inRing(c) ? 1 : 0;
            case 10 -> context.ranInOwn;
            case 11 -> context.ranInOthers;
            case 12 -> context.gaveAway;
            case 13 -> context.idled;
            default -> BAD_VALUE;
        };
    }

    private static int mask(Set<Integer> set) {
        return set.stream().mapToInt(member -> 1 << member).sum();
    }

    int command(int context, int place, int what) {
        if (!in(context, 0, 7) || !in(place, 0, now.contexts.get(context).program.size() - 1)) {
            return NO_SUCH;
        }
        Command command = now.contexts.get(context).program.get(place);
        return what == 0 ? command.kind : what == 1 ? command.n : what == 2 ? (command.on ? 1 : 0) : BAD_VALUE;
    }

    int inbox(int context, int place) {
        if (!in(context, 0, 7) || !in(place, 0, now.contexts.get(context).inbox.size() - 1)) {
            return NO_SUCH;
        }
        return new ArrayList<>(now.contexts.get(context).inbox).get(place);
    }

    int holder(int lock) {
        if (!in(lock, 0, 3)) {
            return NO_SUCH;
        }
        return now.holders[lock] == null ? NONE : now.holders[lock];
    }

    int count(int what) {
        Set<Integer> ready = new HashSet<>();
        Set<Integer> rings = new HashSet<>();
        int done = 0;
        int idle = 0;
        int given = 0;
        for (int c = 0; c < 8; c++) {
            done += now.contexts.get(c).done() ? 1 : 0;
            idle += now.contexts.get(c).idled;
            given += now.contexts.get(c).gaveAway;
            if (now.ready(c)) {
                ready.add(c);
            }
            if (now.inRing(c)) {
                rings.add(c);
            }
        }
        return switch (what) {
            case 0 -> now.slots;
            case 1 -> done;
            case 2 -> mask(ready);
            case 3 -> mask(rings);
            case 4 -> now.stuck() ? 1 : 0;
            case 5 -> idle;
            case 6 -> given;
            case 7 -> now.copy().slot();
            case 8 -> pad.length();
            case 9 -> past.size();
            default -> BAD_VALUE;
        };
    }

    int slotsLeft() {
        State copy = now.copy();
        for (int slots = 0; slots <= 1000; slots++) {
            if (copy.allDone()) {
                return slots;
            }
            copy.slot();
        }
        return NONE;
    }

    int leftIf(int context, int other, int priority) {
        if (!in(context, 0, 7) || !in(other, 0, 7)) {
            return NO_SUCH;
        }
        if (!in(priority, 0, 9)) {
            return BAD_VALUE;
        }
        State copy = now.copy();
        copy.contexts.get(other).priority = priority;
        for (int slots = 0; slots <= 1000; slots++) {
            if (copy.contexts.get(context).done()) {
                return slots;
            }
            copy.slot();
        }
        return NONE;
    }

    int sumBehind(int context, int slots) {
        if (!in(context, 0, 7)) {
            return NO_SUCH;
        }
        if (!in(slots, 1, 200)) {
            return BAD_VALUE;
        }
        State copy = now.copy();
        for (int i = 0; i < slots; i++) {
            copy.slot();
        }
        return copy.contexts.get(context).sum;
    }

    int put(long characters) {
        StringBuilder found = new StringBuilder();
        boolean ended = false;
        for (int i = 0; i < 8; i++) {
            int code = (int) (characters >>> 8 * i) & 255;
            if (code == 0) {
                ended = true;
            } else if (ended || code < 33 || code > 126) {
                return BAD_VALUE;
            } else {
                found.insert(0, (char) code);
            }
        }
        if (found.length() == 0) {
            return BAD_VALUE;
        }
        if (pad.length() + found.length() > 72) {
            return TOO_MANY;
        }
        pad = pad + found;
        return pad.length();
    }

    int wipe() {
        int length = pad.length();
        pad = "";
        return length;
    }

    /** The first prefix that no text begins with ends by the fault. */
    int fault() {
        for (int end = 1; end <= pad.length(); end++) {
            Matcher matcher = TEXT.matcher(pad.substring(0, end));
            if (!matcher.matches() && !matcher.hitEnd()) {
                return end - 1;
            }
        }
        return TEXT.matcher(pad).matches() ? NONE : pad.length();
    }

    int undo() {
        if (past.isEmpty()) {
            return NOT_POSSIBLE;
        }
        now = past.removeLast();
        return past.size();
    }

    int save(int slot) {
        if (!in(slot, 0, 1)) {
            return BAD_VALUE;
        }
        saved[slot] = now.copy();
        return now.slots;
    }

    int restore(int slot) {
        if (!in(slot, 0, 1)) {
            return BAD_VALUE;
        }
        if (saved[slot] == null) {
            return NOT_POSSIBLE;
        }
        change();
        now = saved[slot].copy();
        return now.slots;
    }
}
