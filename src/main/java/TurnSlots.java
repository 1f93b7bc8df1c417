/** Eight contexts that turn in one machine: slots, messages, locks, lent priorities, undo and saved states. */
public final class TurnSlots {
    public static final int NO_SUCH = -1, BAD_VALUE = -2, BAD_TEXT = -3, TOO_MANY = -4, NOT_POSSIBLE = -5, NONE = -6;
    public static final int ADD = 0, SEND = 1, TAKE = 2, LOCK = 3, FREE = 4, WAIT = 5, BACK = 6;

    private static final int CONTEXTS = 8;
    private static final int ALL_CONTEXTS = 255;
    private static final int MOST_COMMANDS = 16;
    private static final int MOST_IN_INBOX = 4;
    private static final int LOCKS = 4;
    private static final int SUMS = 1000;
    private static final int GREATEST_PRIORITY = 9;
    private static final int LONGEST_STEP = 200;
    private static final int LONGEST_RUN = 1000;
    private static final int MOST_SLOTS = 100000;
    private static final int LONGEST_PAD = 72;
    private static final int MOST_IN_PUT = 8;
    private static final int HISTORY = 6;
    private static final int SAVES = 2;

    private static final int DONE = 0, READY = 1, SLEEPS = 2, WAITS_BY_LOCK = 3, WAITS_BY_TAKE = 4, WAITS_BY_SEND = 5;
    private static final int RAN_OWN = 0, RAN_OTHERS = 1, GAVE_AWAY = 2, IDLED = 3, ACCOUNTS = 4;

    /** By command: the bounds of its n, and its letter in a text. */
    private static final int[] LEAST_N = {0, 0, 0, 0, 0, 0, 1};
    private static final int[] GREATEST_N = {99, 7, 0, 3, 3, 99, 15};
    private static final String LETTERS = "astlfwb";

    private final Machine now = new Machine();
    /** A copy of the machine in which what-if calls let slots pass; made once, as the room for objects is small. */
    private final Machine trial = new Machine();
    private final History history = new History();
    private final Machine[] saves = new Machine[SAVES];
    private final boolean[] isSaved = new boolean[SAVES];
    private final Pad pad = new Pad();

    public TurnSlots() {
        for (int slot = 0; slot < SAVES; slot++) {
            saves[slot] = new Machine();
        }
    }

    // ---- programs

    public int add(int context, int command, int n) {
        if (!isContext(context)) {
            return NO_SUCH;
        }
        if (!isCommand(command, n)) {
            return BAD_VALUE;
        }
        Context changed = now.contexts[context];
        if (changed.commands >= MOST_COMMANDS) {
            return TOO_MANY;
        }
        history.record(now);
        changed.append(command, n);
        return changed.commands;
    }

    public int read() {
        if (pad.findFault() != NONE) {
            return BAD_TEXT;
        }
        history.record(now);
        now.contexts[pad.context].load(pad);
        pad.length = 0;
        return pad.context;
    }

    public int prefer(int context, int priority) {
        if (!isContext(context)) {
            return NO_SUCH;
        }
        if (!isPriority(priority)) {
            return BAD_VALUE;
        }
        history.record(now);
        int previous = now.contexts[context].priority;
        now.contexts[context].priority = priority;
        return previous;
    }

    public int post(int context, int number) {
        if (!isContext(context)) {
            return NO_SUCH;
        }
        if (number < 0 || number >= SUMS) {
            return BAD_VALUE;
        }
        Context changed = now.contexts[context];
        if (changed.received >= MOST_IN_INBOX) {
            return TOO_MANY;
        }
        history.record(now);
        changed.receive(number);
        return changed.received;
    }

    public int release(int lock) {
        if (!isLock(lock)) {
            return NO_SUCH;
        }
        int previous = now.holders[lock];
        if (previous == NONE) {
            return NOT_POSSIBLE;
        }
        history.record(now);
        now.holders[lock] = NONE;
        return previous;
    }

    // ---- slots

    public int step(int slots) {
        if (!isStep(slots)) {
            return BAD_VALUE;
        }
        if (now.passed + slots > MOST_SLOTS) {
            return TOO_MANY;
        }
        history.record(now);
        return now.passSlots(slots);
    }

    public int run() {
        if (now.passed > MOST_SLOTS - LONGEST_RUN) {
            return TOO_MANY;
        }
        history.record(now);
        return now.passUntilDone(ALL_CONTEXTS);
    }

    // ---- what there is

    public int of(int context, int what) {
        if (!isContext(context)) {
            return NO_SUCH;
        }
        Context asked = now.contexts[context];
        switch (what) {
            case 0: return asked.commands;
            case 1: return asked.place;
            case 2: return asked.sum;
            case 3: return asked.priority;
            case 4: return now.lentPriority(context, now.findAllWaits());
            case 5: return asked.received;
            case 6: return asked.sleep;
            case 7: return now.stateOf(context);
            case 8: return now.waitsOf(context);
            case 9: return has(now.ringSet(), context) ? 1 : 0;
            case 10: return asked.accounts[RAN_OWN];
            case 11: return asked.accounts[RAN_OTHERS];
            case 12: return asked.accounts[GAVE_AWAY];
            case 13: return asked.accounts[IDLED];
            default: return BAD_VALUE;
        }
    }

    public int command(int context, int place, int what) {
        if (!isContext(context)) {
            return NO_SUCH;
        }
        Context asked = now.contexts[context];
        if (place < 0 || place >= asked.commands) {
            return NO_SUCH;
        }
        switch (what) {
            case 0: return asked.kinds[place];
            case 1: return asked.numbers[place];
            case 2: return has(asked.marks, place) ? 1 : 0;
            default: return BAD_VALUE;
        }
    }

    public int inbox(int context, int place) {
        if (!isContext(context)) {
            return NO_SUCH;
        }
        Context asked = now.contexts[context];
        if (place < 0 || place >= asked.received) {
            return NO_SUCH;
        }
        return asked.messages[place];
    }

    public int holder(int lock) {
        if (!isLock(lock)) {
            return NO_SUCH;
        }
        return now.holders[lock];
    }

    public int count(int what) {
        switch (what) {
            case 0: return now.passed;
            case 1: return Integer.bitCount(now.setIn(DONE));
            case 2: return now.setIn(READY);
            case 3: return now.ringSet();
            case 4: return now.isStuck() ? 1 : 0;
            case 5: return now.idled;
            case 6: return now.givenAway;
            case 7: return tryNow().passSlot();
            case 8: return pad.length;
            case 9: return history.size;
            default: return BAD_VALUE;
        }
    }

    // ---- what if; nothing changes

    public int slotsLeft() {
        int slots = tryNow().passUntilDone(ALL_CONTEXTS);
        return trial.areDone(ALL_CONTEXTS) ? slots : NONE;
    }

    public int leftIf(int context, int other, int priority) {
        if (!isContext(context) || !isContext(other)) {
            return NO_SUCH;
        }
        if (!isPriority(priority)) {
            return BAD_VALUE;
        }
        tryNow().contexts[other].priority = priority;
        int slots = trial.passUntilDone(1 << context);
        return trial.areDone(1 << context) ? slots : NONE;
    }

    public int sumBehind(int context, int slots) {
        if (!isContext(context)) {
            return NO_SUCH;
        }
        if (!isStep(slots)) {
            return BAD_VALUE;
        }
        tryNow().passSlots(slots);
        return trial.contexts[context].sum;
    }

    // ---- texts

    public int put(long characters) {
        int added = Pad.charactersIn(characters);
        if (added == 0) {
            return BAD_VALUE;
        }
        if (pad.length + added > LONGEST_PAD) {
            return TOO_MANY;
        }
        pad.append(characters, added);
        return pad.length;
    }

    public int wipe() {
        int previous = pad.length;
        pad.length = 0;
        return previous;
    }

    public int fault() {
        return pad.findFault();
    }

    // ---- undo, saving

    public int undo() {
        if (history.size == 0) {
            return NOT_POSSIBLE;
        }
        history.takeBack(now);
        return history.size;
    }

    public int save(int slot) {
        if (!isSave(slot)) {
            return BAD_VALUE;
        }
        saves[slot].copyFrom(now);
        isSaved[slot] = true;
        return now.passed;
    }

    public int restore(int slot) {
        if (!isSave(slot)) {
            return BAD_VALUE;
        }
        if (!isSaved[slot]) {
            return NOT_POSSIBLE;
        }
        history.record(now);
        now.copyFrom(saves[slot]);
        return now.passed;
    }

    // ---- what the calls share

    private Machine tryNow() {
        trial.copyFrom(now);
        return trial;
    }

    private static boolean isContext(int context) {
        return context >= 0 && context < CONTEXTS;
    }

    private static boolean isCommand(int command, int n) {
        return command >= ADD && command <= BACK && n >= LEAST_N[command] && n <= GREATEST_N[command];
    }

    private static boolean isPriority(int priority) {
        return priority >= 0 && priority <= GREATEST_PRIORITY;
    }

    private static boolean isLock(int lock) {
        return lock >= 0 && lock < LOCKS;
    }

    private static boolean isStep(int slots) {
        return slots >= 1 && slots <= LONGEST_STEP;
    }

    private static boolean isSave(int slot) {
        return slot >= 0 && slot < SAVES;
    }

    private static boolean has(int set, int member) {
        return (set >> member & 1) != 0;
    }

    /** What one context has: its program, where it is in it, and its accounts. */
    private static final class Context {
        final int[] kinds = new int[MOST_COMMANDS];
        final int[] numbers = new int[MOST_COMMANDS];
        final int[] messages = new int[MOST_IN_INBOX];
        final int[] accounts = new int[ACCOUNTS];
        int commands;
        /** The places of the BACKs whose mark is on, as a set. */
        int marks;
        int place;
        int sum;
        int priority;
        int received;
        int sleep;

        void copyFrom(Context from) {
            System.arraycopy(from.kinds, 0, kinds, 0, MOST_COMMANDS);
            System.arraycopy(from.numbers, 0, numbers, 0, MOST_COMMANDS);
            System.arraycopy(from.messages, 0, messages, 0, MOST_IN_INBOX);
            System.arraycopy(from.accounts, 0, accounts, 0, ACCOUNTS);
            commands = from.commands;
            marks = from.marks;
            place = from.place;
            sum = from.sum;
            priority = from.priority;
            received = from.received;
            sleep = from.sleep;
        }

        void append(int kind, int n) {
            if (commands < MOST_COMMANDS) {
                kinds[commands] = kind;
                numbers[commands] = n;
                commands++;
            }
        }

        /** Inbox, priority and accounts stay: the document names place, sum and sleep alone. */
        void load(Pad pad) {
            commands = 0;
            for (int i = 0; i < pad.commands; i++) {
                append(pad.kinds[i], pad.numbers[i]);
            }
            marks = 0;
            place = 0;
            sum = 0;
            sleep = 0;
        }

        void receive(int number) {
            if (received < MOST_IN_INBOX) {
                messages[received] = number;
                received++;
            }
        }

        void takeMessage() {
            if (received > 0) {
                addToSum(messages[0]);
                received--;
                System.arraycopy(messages, 1, messages, 0, MOST_IN_INBOX - 1);
            }
        }

        void addToSum(int number) {
            sum = (sum + number) % SUMS;
        }

        void goBack(int n) {
            boolean wasOn = has(marks, place);
            marks ^= 1 << place;
            place = wasOn ? place + 1 : Math.max(0, place - n);
        }
    }

    /** All that undo, save and restore bring back, and how a slot of it passes. */
    private static final class Machine {
        final Context[] contexts = new Context[CONTEXTS];
        final int[] holders = new int[LOCKS];
        /** No part of the state: filled anew by findAllWaits, which must make no array in each slot. */
        private final int[] allWaits = new int[CONTEXTS];
        int passed;
        int idled;
        int givenAway;

        Machine() {
            for (int context = 0; context < CONTEXTS; context++) {
                contexts[context] = new Context();
            }
            for (int lock = 0; lock < LOCKS; lock++) {
                holders[lock] = NONE;
            }
        }

        void copyFrom(Machine from) {
            for (int context = 0; context < CONTEXTS; context++) {
                contexts[context].copyFrom(from.contexts[context]);
            }
            System.arraycopy(from.holders, 0, holders, 0, LOCKS);
            passed = from.passed;
            idled = from.idled;
            givenAway = from.givenAway;
        }

        int stateOf(int context) {
            Context asked = contexts[context];
            if (asked.place >= asked.commands) {
                return DONE;
            }
            if (asked.sleep > 0) {
                return SLEEPS;
            }
            int n = asked.numbers[asked.place];
            switch (asked.kinds[asked.place]) {
                case SEND: return contexts[n].received >= MOST_IN_INBOX ? WAITS_BY_SEND : READY;
                case TAKE: return asked.received == 0 ? WAITS_BY_TAKE : READY;
                case LOCK: return holders[n] != NONE ? WAITS_BY_LOCK : READY;
                default: return READY;
            }
        }

        int setIn(int state) {
            int set = 0;
            for (int context = 0; context < CONTEXTS; context++) {
                if (stateOf(context) == state) {
                    set |= 1 << context;
                }
            }
            return set;
        }

        boolean areDone(int wanted) {
            for (int context = 0; context < CONTEXTS; context++) {
                if (has(wanted, context) && contexts[context].place < contexts[context].commands) {
                    return false;
                }
            }
            return true;
        }

        boolean isStuck() {
            boolean anyWaits = false;
            for (int context = 0; context < CONTEXTS; context++) {
                int state = stateOf(context);
                if (state == READY || state == SLEEPS) {
                    return false;
                }
                anyWaits = anyWaits || state != DONE;
            }
            return anyWaits;
        }

        /** For whom a context itself waits, not by way of others. */
        int waitsOf(int context) {
            Context asked = contexts[context];
            switch (stateOf(context)) {
                case WAITS_BY_LOCK: return 1 << holders[asked.numbers[asked.place]];
                case WAITS_BY_TAKE: return sendersTo(context);
                case WAITS_BY_SEND: return 1 << asked.numbers[asked.place];
                default: return 0;
            }
        }

        /** Only what stands from the place on counts, though a BACK may lead to SENDs before it. */
        private int sendersTo(int context) {
            int set = 0;
            for (int other = 0; other < CONTEXTS; other++) {
                Context sender = contexts[other];
                for (int i = sender.place; i < sender.commands && other != context; i++) {
                    if (sender.kinds[i] == SEND && sender.numbers[i] == context) {
                        set |= 1 << other;
                    }
                }
            }
            return set;
        }

        /** By context: for whom it waits, also by way of others. */
        int[] findAllWaits() {
            for (int context = 0; context < CONTEXTS; context++) {
                allWaits[context] = waitsOf(context);
            }
            for (int between = 0; between < CONTEXTS; between++) {
                for (int context = 0; context < CONTEXTS; context++) {
                    if (has(allWaits[context], between)) {
                        allWaits[context] |= allWaits[between];
                    }
                }
            }
            return allWaits;
        }

        int lentPriority(int context, int[] waits) {
            int greatest = contexts[context].priority;
            for (int other = 0; other < CONTEXTS; other++) {
                if (has(waits[other], context)) {
                    greatest = Math.max(greatest, contexts[other].priority);
                }
            }
            return greatest;
        }

        int ringSet() {
            int[] waits = findAllWaits();
            int set = 0;
            for (int context = 0; context < CONTEXTS; context++) {
                set |= waits[context] & 1 << context;
            }
            return set;
        }

        int passSlots(int slots) {
            int runner = NONE;
            for (int i = 0; i < slots; i++) {
                runner = passSlot();
            }
            return runner;
        }

        /** Answers how many slots passed; it ends early when stuck, as nothing could happen any more. */
        int passUntilDone(int wanted) {
            int slots = 0;
            while (slots < LONGEST_RUN && !areDone(wanted) && !isStuck()) {
                passSlot();
                slots++;
            }
            return slots;
        }

        int passSlot() {
            int owner = passed % CONTEXTS;
            passed++;
            for (int context = 0; context < CONTEXTS; context++) {
                contexts[context].sleep = Math.max(0, contexts[context].sleep - 1);
            }
            int runner = runnerInSlotOf(owner);
            account(owner, runner);
            if (runner != NONE) {
                runNextOf(runner);
            }
            return runner;
        }

        private int runnerInSlotOf(int owner) {
            int ready = setIn(READY);
            if (ready == 0 || has(ready, owner)) {
                return ready == 0 ? NONE : owner;
            }
            int[] waits = findAllWaits();
            int runner = NONE;
            int greatest = -1;
            for (int behind = 1; behind < CONTEXTS; behind++) {
                int context = (owner + behind) % CONTEXTS;
                int lent = lentPriority(context, waits);
                if (has(ready, context) && lent > greatest) {
                    runner = context;
                    greatest = lent;
                }
            }
            return runner;
        }

        private void account(int owner, int runner) {
            if (runner == NONE) {
                idled++;
                contexts[owner].accounts[IDLED]++;
            } else if (runner == owner) {
                contexts[owner].accounts[RAN_OWN]++;
            } else {
                givenAway++;
                contexts[owner].accounts[GAVE_AWAY]++;
                contexts[runner].accounts[RAN_OTHERS]++;
            }
        }

        private void runNextOf(int context) {
            Context runner = contexts[context];
            int kind = runner.kinds[runner.place];
            int n = runner.numbers[runner.place];
            if (kind == BACK) {
                runner.goBack(n);
                return;
            }
            runner.place++;
            switch (kind) {
                case ADD: runner.addToSum(n); break;
                case SEND: contexts[n].receive(runner.sum); break;
                case TAKE: runner.takeMessage(); break;
                case LOCK: holders[n] = context; break;
                case FREE: freeIfHeldBy(context, n); break;
                case WAIT: runner.sleep = n; break;
                default: break;
            }
        }

        private void freeIfHeldBy(int context, int lock) {
            if (holders[lock] == context) {
                holders[lock] = NONE;
            }
        }
    }

    /** The latest states before changes; a ring, so that dropping the oldest one moves nothing. */
    private static final class History {
        private final Machine[] states = new Machine[HISTORY];
        private int oldest;
        int size;

        History() {
            for (int i = 0; i < HISTORY; i++) {
                states[i] = new Machine();
            }
        }

        void record(Machine machine) {
            states[(oldest + size) % HISTORY].copyFrom(machine);
            if (size < HISTORY) {
                size++;
            } else {
                oldest = (oldest + 1) % HISTORY;
            }
        }

        void takeBack(Machine machine) {
            if (size > 0) {
                size--;
                machine.copyFrom(states[(oldest + size) % HISTORY]);
            }
        }
    }

    /** The text that is put together, and the program that it tells. */
    private static final class Pad {
        private static final int NO_DIGIT = 10;

        private final char[] characters = new char[LONGEST_PAD];
        int length;
        /** What the latest reading found: only a text without a fault fills them whole. */
        final int[] kinds = new int[MOST_COMMANDS];
        final int[] numbers = new int[MOST_COMMANDS];
        int context;
        int commands;
        private int at;

        /** How many characters a number gives, 0 if they are no good ones. */
        static int charactersIn(long number) {
            long rest = number;
            int found = 0;
            while (rest != 0 && found < MOST_IN_PUT) {
                int code = (int) (rest & 255);
                if (code < 33 || code > 126) {
                    return 0;
                }
                rest = rest >>> 8;
                found++;
            }
            return found;
        }

        void append(long number, int added) {
            for (int left = added - 1; left >= 0 && length < LONGEST_PAD; left--) {
                characters[length] = (char) (number >>> 8 * left & 255);
                length++;
            }
        }

        /** Behind the end stands a character that no text may hold, so that readers need not look at the length. */
        private char characterAt(int index) {
            return index >= 0 && index < length ? characters[index] : 0;
        }

        /** Reads from left to right: where it cannot go on, there is the fault. */
        int findFault() {
            at = 0;
            commands = 0;
            context = digitHere();
            if (context >= CONTEXTS) {
                return at;
            }
            at++;
            if (!takeCharacter(':')) {
                return at;
            }
            boolean more = at < length;
            while (more && commands < MOST_COMMANDS) {
                if (!takeCommand()) {
                    return at;
                }
                commands++;
                more = commands < MOST_COMMANDS && takeCharacter(',');
            }
            return at < length ? at : NONE;
        }

        private boolean takeCharacter(char expected) {
            if (characterAt(at) != expected) {
                return false;
            }
            at++;
            return true;
        }

        private boolean takeCommand() {
            int kind = LETTERS.indexOf(characterAt(at));
            if (kind < 0) {
                return false;
            }
            at++;
            kinds[commands] = kind;
            numbers[commands] = 0;
            return kind == TAKE || takeNumber(LEAST_N[kind], GREATEST_N[kind]);
        }

        /** Contexts and locks are numbers here too: their bounds let no second digit stand. */
        private boolean takeNumber(int least, int greatest) {
            int number = digitHere();
            if (number == NO_DIGIT || number < least || number > greatest) {
                return false;
            }
            at++;
            int second = digitHere();
            if (number != 0 && second != NO_DIGIT && 10 * number + second <= greatest) {
                number = 10 * number + second;
                at++;
            }
            numbers[commands] = number;
            return true;
        }

        private int digitHere() {
            char character = characterAt(at);
            return character >= '0' && character <= '9' ? character - '0' : NO_DIGIT;
        }
    }
}
