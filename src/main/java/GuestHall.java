import java.util.ArrayList;
import java.util.Arrays;

/** A hall of guests on two hosts, as the project's document promises it. */
public final class GuestHall {
    public static final int NONE = -1;
    public static final int SET = 0, ADD = 1, LOAD = 2, STORE = 3, JUMP = 4, MAP = 5, OUT = 6, IN = 7, WAIT = 8, HANDLE = 9, MASK = 10, BACK = 11, GIVE = 12, STOP = 13;
    public static final int READY = 0, WAITING = 1, STOPPED = 2, DEAD = 3;
    public static final int BARE = 0, HELD = 1, SWAPPED = 2;
    public static final int GIVEN = 0, BROUGHT = 1, COPIED = 2, TOLD = 3, RESTS = 4, LET = 5;

    private static final int GUESTS = 5, HOSTS = 2, SNAPSHOTS = 10;
    private static final int MOST_WEIGHT = 4, MOST_SCALE = 3, MOST_INPUTS = 20;
    private static final int MOST_TICKS = 100, LAST_TIME = 3000;
    private static final int INSTRUCTIONS = 24, REGISTERS = 4, EXITS = 6, NUMBERS = 10000;
    private static final int PAGES = 8, PLACES = 4, WORDS = PAGES * PLACES, ALL_PAGES = 255, FRAMES = 16;
    private static final int SAY_PORT = 0, INPUT_PORT = 0, CAUSE_PORT = 2;
    private static final int FAULT_CAUSE = 1, TIMER_CAUSE = 2, SENT_CAUSE = 3, CAUSES = 4;

    /** For each instruction, how many numbers from 0 its a and its b may be; 0 where any will do. */
    private static final int[] A_NUMBERS = {4, 4, 4, 4, 4, 8, 4, 4, 0, 0, 0, 0, 0, 0};
    private static final int[] B_NUMBERS = {10000, 4, 4, 4, 24, 9, 2, 3, 0, 24, 2, 0, 8, 0};

    private final ArrayList<Guest> guests = new ArrayList<Guest>();
    private final ArrayList<Snapshot> snapshots = new ArrayList<Snapshot>();
    private final Host[] hosts = {new Host(0), new Host(1)};
    private int time;

    public GuestHall() {
    }

    // ---- guests

    public int guest(int host, int weight, boolean isSealed) throws IndexOutOfBoundsException, IllegalArgumentException, IllegalStateException {
        Host its = hostAt(host);
        if (weight < 1 || weight > MOST_WEIGHT) {
            throw new IllegalArgumentException("weight");
        }
        if (guests.size() >= GUESTS || its.hasFailed) {
            throw new IllegalStateException("no room, or a host that failed");
        }
        guests.add(new Guest(guests.size(), its, weight, isSealed));
        return guests.size() - 1;
    }

    public int instruct(int guest, int what, int a, int b) throws IndexOutOfBoundsException, IllegalArgumentException, IllegalStateException {
        Guest its = guestAt(guest);
        if (what < SET || what > STOP || !isOneOf(a, A_NUMBERS[what]) || !isOneOf(b, B_NUMBERS[what])) {
            throw new IllegalArgumentException("instruction");
        }
        if (its.program.size >= INSTRUCTIONS || its.ran > 0 || its.wasRestored) {
            throw new IllegalStateException("the program is full, or in use");
        }
        return its.program.append(what, a, b);
    }

    public boolean pause(int guest, boolean isPaused) throws IndexOutOfBoundsException {
        Guest its = guestAt(guest);
        boolean was = its.isPaused;
        its.isPaused = isPaused;
        return was;
    }

    public int scale(int guest, int scale) throws IndexOutOfBoundsException, IllegalArgumentException {
        Guest its = guestAt(guest);
        if (scale < 1 || scale > MOST_SCALE) {
            throw new IllegalArgumentException("scale");
        }
        int was = its.scale;
        its.scale = scale;
        return was;
    }

    public int input(int guest, int value) throws IndexOutOfBoundsException, IllegalArgumentException, IllegalStateException {
        Guest its = guestAt(guest);
        if (value < 0 || value >= NUMBERS) {
            throw new IllegalArgumentException("value");
        }
        if (its.state.inputs.size >= MOST_INPUTS) {
            throw new IllegalStateException("too many inputs");
        }
        its.state.inputs.add(value);
        if (its.following.isOn) {
            its.following.cameSince.add(value);
        }
        return its.state.inputs.size;
    }

    public boolean send(int guest) throws IndexOutOfBoundsException, IllegalStateException {
        State state = guestAt(guest).state;
        if (state.machine.hasEnded()) {
            throw new IllegalStateException("stopped or dead");
        }
        boolean was = state.isSentPending;
        state.isSentPending = true;
        state.rouse();
        return was;
    }

    public int tick(int ticks) throws IllegalArgumentException, IllegalStateException {
        if (ticks < 1 || ticks > MOST_TICKS) {
            throw new IllegalArgumentException("ticks");
        }
        if (time + ticks > LAST_TIME) {
            throw new IllegalStateException("too late");
        }
        for (int i = 0; i < ticks; i++) {
            countTimersDown();
            for (Host host : hosts) {
                giveTurn(host);
            }
            endTick();
        }
        return time;
    }

    // ---- frames, moving, snapshots

    public int share(int host) throws IndexOutOfBoundsException {
        Host its = hostAt(host);
        int freed = 0;
        for (int low = 0; low < FRAMES; low++) {
            for (int high = low + 1; high < FRAMES; high++) {
                if (areAlike(its.keyIn(low), its.keyIn(high))) {
                    its.merge(low, high);
                    freed++;
                }
            }
        }
        return freed;
    }

    public int move(int guest) throws IndexOutOfBoundsException, IllegalStateException {
        Guest its = guestAt(guest);
        if (its.isMoving() || its.isDead() || otherOf(its.host).hasFailed) {
            throw new IllegalStateException("moving, dead, or nowhere to go");
        }
        its.toSend = ALL_PAGES & ~its.barePages;
        return Integer.bitCount(its.toSend);
    }

    public int round(int guest, int pages) throws IndexOutOfBoundsException, IllegalArgumentException, IllegalStateException {
        Guest its = guestAt(guest);
        if (pages < 1 || pages > PAGES) {
            throw new IllegalArgumentException("pages");
        }
        if (!its.isMoving()) {
            throw new IllegalStateException("not moving");
        }
        its.sendPages(pages);
        return Integer.bitCount(its.toSend);
    }

    public int land(int guest, boolean isWanted) throws IndexOutOfBoundsException, IllegalStateException {
        Guest its = guestAt(guest);
        if (!its.isMoving()) {
            throw new IllegalStateException("not moving");
        }
        int sentBefore = its.sent;
        if (isWanted) {
            its.sendPages(PAGES);
            its.leaveFrames();
            its.host = otherOf(its.host);
        }
        its.toSend = NONE;
        return its.sent - sentBefore;
    }

    public int snapshot(int guest) throws IndexOutOfBoundsException, IllegalStateException {
        Guest its = guestAt(guest);
        if (its.isDead() || snapshots.size() >= SNAPSHOTS) {
            throw new IllegalStateException("dead, or too many snapshots");
        }
        Snapshot made = new Snapshot(its);
        its.lastSnapshot = made;
        snapshots.add(made);
        return snapshots.size() - 1;
    }

    public int restore(int guest, int snapshot) throws IndexOutOfBoundsException, IllegalStateException {
        Guest its = guestAt(guest);
        Snapshot kept = snapshotAt(snapshot);
        if (kept.owner != its || its.following.isOn || its.host.hasFailed) {
            throw new IllegalStateException("another's snapshot, followed, or a host that failed");
        }
        its.lastSnapshot = kept;
        return its.goBackTo(kept.state);
    }

    // ---- failing, following

    public boolean follow(int guest, boolean isFollowed) throws IndexOutOfBoundsException, IllegalStateException {
        Guest its = guestAt(guest);
        if (its.isDead()) {
            throw new IllegalStateException("dead");
        }
        boolean was = its.following.isOn;
        its.following.isOn = isFollowed;
        if (isFollowed) {
            its.keepStep();
        } else {
            its.letHeldOut();
        }
        return was;
    }

    public int step(int guest) throws IndexOutOfBoundsException, IllegalStateException {
        Guest its = guestAt(guest);
        if (!its.following.isOn) {
            throw new IllegalStateException("not followed");
        }
        return its.keepStep();
    }

    public int fail(int host) throws IndexOutOfBoundsException, IllegalStateException {
        Host its = hostAt(host);
        if (its.hasFailed) {
            throw new IllegalStateException("failed already");
        }
        its.hasFailed = true;
        Host other = otherOf(its);
        int goOn = 0;
        for (int i = 0; i < guests.size(); i++) {
            Guest guest = guests.get(i);
            guest.toSend = NONE;
            if (guest.host == its) {
                guest.leaveFrames();
                if (guest.following.isOn && !other.hasFailed) {
                    guest.goOnUpon(other);
                    goOn++;
                } else {
                    guest.dieWithHost();
                }
            }
        }
        return goOn;
    }

    public void mend(int host) throws IndexOutOfBoundsException, IllegalStateException {
        Host its = hostAt(host);
        if (!its.hasFailed) {
            throw new IllegalStateException("not failed");
        }
        its.hasFailed = false;
    }

    // ---- what is asked

    public int time() {
        return time;
    }

    public int of(int guest, int what) throws IndexOutOfBoundsException, IllegalArgumentException {
        Guest its = guestAt(guest);
        Machine machine = its.state.machine;
        switch (what) {
            case 0: return machine.how;
            case 1: return its.host.number;
            case 2: return machine.next;
            case 3: return machine.cause;
            case 4: return machine.isMasked ? 1 : 0;
            case 5: return its.state.clock;
            case 6: return its.stolen;
            case 7: return its.ran;
            case 8: return its.state.inputs.size;
            case 9: return its.isMoving() ? Integer.bitCount(its.toSend) : NONE;
            case 10: return its.sent;
            default: throw new IllegalArgumentException("what");
        }
    }

    public int register(int guest, int register) throws IndexOutOfBoundsException {
        Guest its = guestAt(guest);
        checkPlace(register, REGISTERS);
        return its.isSealed ? NONE : its.state.machine.registers[register];
    }

    public int word(int guest, int page, int place) throws IndexOutOfBoundsException {
        Guest its = guestAt(guest);
        checkPlace(page, PAGES);
        checkPlace(place, PLACES);
        return its.isSealed ? NONE : its.state.machine.words[page * PLACES + place];
    }

    public int pageOf(int guest, int page) throws IndexOutOfBoundsException {
        Guest its = guestAt(guest);
        checkPlace(page, PAGES);
        if (its.isBare(page)) {
            return BARE;
        }
        return its.frameFor(page) == NONE ? SWAPPED : HELD;
    }

    public int frameOf(int guest, int page) throws IndexOutOfBoundsException {
        Guest its = guestAt(guest);
        checkPlace(page, PAGES);
        return its.frameFor(page);
    }

    public int used(int host) throws IndexOutOfBoundsException {
        return hostAt(host).countUsed();
    }

    public int exits(int guest, int kind) throws IndexOutOfBoundsException, IllegalArgumentException {
        Guest its = guestAt(guest);
        if (kind < GIVEN || kind > LET) {
            throw new IllegalArgumentException("kind");
        }
        return its.exits[kind];
    }

    public int out(int guest) throws IndexOutOfBoundsException {
        return guestAt(guest).wentOut.size;
    }

    public int outAt(int guest, int place) throws IndexOutOfBoundsException {
        Guest its = guestAt(guest);
        checkPlace(place, its.wentOut.size);
        return its.wentOut.row[place];
    }

    public int held(int guest) throws IndexOutOfBoundsException {
        return guestAt(guest).following.held.size;
    }

    public int stored(int snapshot) throws IndexOutOfBoundsException {
        return snapshotAt(snapshot).storedPages;
    }

    public boolean isAsPlain(int guest) throws IndexOutOfBoundsException {
        Guest its = guestAt(guest);
        return its.diedWithHost || new Replay(its.state).agrees(its.program);
    }

    // ---- inside

    private Guest guestAt(int number) {
        checkPlace(number, guests.size());
        return guests.get(number);
    }

    private Host hostAt(int number) {
        checkPlace(number, HOSTS);
        return hosts[number];
    }

    private Snapshot snapshotAt(int number) {
        checkPlace(number, snapshots.size());
        return snapshots.get(number);
    }

    private static void checkPlace(int place, int size) {
        if (place < 0 || place >= size) {
            throw new IndexOutOfBoundsException("no such number");
        }
    }

    private static boolean isOneOf(int number, int numbers) {
        return numbers == 0 || number >= 0 && number < numbers;
    }

    private Host otherOf(Host host) {
        return host == hosts[0] ? hosts[1] : hosts[0];
    }

    private void countTimersDown() {
        for (int i = 0; i < guests.size(); i++) {
            guests.get(i).state.countTimerDown();
        }
    }

    private void endTick() {
        for (int i = 0; i < guests.size(); i++) {
            guests.get(i).advanceClock();
        }
        time++;
    }

    private void giveTurn(Host host) {
        Guest chosen = host.hasFailed ? null : chooseFor(host);
        if (chosen == null) {
            return;
        }
        host.tick = time + 1;
        for (int i = 0; i < guests.size(); i++) {
            Guest guest = guests.get(i);
            if (guest != chosen && guest.canRunOn(host)) {
                guest.stolen++;
            }
        }
        chosen.runTick();
    }

    private Guest chooseFor(Host host) {
        Guest last = host.ranLast;
        if (last != null && host.row < last.weight && last.canRunOn(host)) {
            host.row++;
            return last;
        }
        int count = guests.size();
        int first = last == null ? 0 : last.number + 1;
        for (int i = 0; i < count; i++) {
            Guest guest = guests.get((first + i) % count);
            if (guest.canRunOn(host)) {
                host.ranLast = guest;
                host.row = 1;
                return guest;
            }
        }
        return null;
    }

    private boolean areAlike(int key, int otherKey) {
        if (key == NONE || otherKey == NONE) {
            return false;
        }
        Guest guest = guests.get(key / PAGES);
        Guest other = guests.get(otherKey / PAGES);
        return !guest.isSealed && !other.isSealed
            && arePagesAlike(guest.state.machine.words, key % PAGES, other.state.machine.words, otherKey % PAGES);
    }

    private static boolean arePagesAlike(int[] words, int page, int[] otherWords, int otherPage) {
        for (int place = 0; place < PLACES; place++) {
            if (words[page * PLACES + place] != otherWords[otherPage * PLACES + place]) {
                return false;
            }
        }
        return true;
    }

    private static boolean areRowsAlike(int[] row, int[] other) {
        if (row.length != other.length) {
            return false;
        }
        for (int i = 0; i < row.length; i++) {
            if (row[i] != other[i]) {
                return false;
            }
        }
        return true;
    }

    /** A row of numbers that grows by doubling: a room that frees nothing must not pay for each length. */
    private static final class Numbers {
        int[] row = new int[8];
        int size;

        void add(int number) {
            if (size >= row.length) {
                row = Arrays.copyOf(row, 2 * row.length);
            }
            row[size] = number;
            size++;
        }

        void addAll(Numbers others) {
            for (int i = 0; i < others.size; i++) {
                add(others.row[i]);
            }
        }

        /** Takes the first number away; 0 without any. */
        int takeFirst() {
            if (size == 0) {
                return 0;
            }
            int first = row[0];
            size--;
            System.arraycopy(row, 1, row, 0, size);
            return first;
        }

        void copyFrom(Numbers other) {
            if (row.length < other.size) {
                row = new int[other.row.length];
            }
            System.arraycopy(other.row, 0, row, 0, other.size);
            size = other.size;
        }
    }

    private static final class Program {
        final int[] whats = new int[INSTRUCTIONS];
        final int[] firsts = new int[INSTRUCTIONS];
        final int[] seconds = new int[INSTRUCTIONS];
        int size;

        int append(int what, int a, int b) {
            if (size >= INSTRUCTIONS) {
                return NONE;
            }
            whats[size] = what;
            firsts[size] = a;
            seconds[size] = b;
            size++;
            return size - 1;
        }
    }

    /** What a machine meets beyond its own state: the hall, or a record of what came from there. */
    private abstract static class Surroundings {
        abstract void reach(int page, boolean isWritten);

        abstract void giveBack(int page);

        abstract int takeFrom(int port);

        abstract void tell(int port, int number);

        abstract boolean isInterruptPending();

        abstract void countExit(int kind);
    }

    /** The machine as its program sees it; all that the hall does beneath stands in its surroundings. */
    private static final class Machine {
        final int[] registers = new int[REGISTERS];
        /** The page of each view; PAGES for none, as MAP says it. */
        final int[] views = {0, 1, 2, 3, 4, 5, 6, 7};
        final int[] words = new int[WORDS];
        int next;
        int handler = NONE;
        int saved;
        int cause;
        boolean isMasked;
        int how = READY;

        boolean hasEnded() {
            return how == STOPPED || how == DEAD;
        }

        void doNext(Program program, Surroundings around) {
            if (next < 0 || next >= program.size) {
                how = STOPPED;
                return;
            }
            int a = program.firsts[next];
            int b = program.seconds[next];
            int what = program.whats[next];
            if (what == LOAD || what == STORE) {
                access(what == STORE, a, wordAt(registers[b]), around);
            } else if (what == OUT || what == IN) {
                tellOrTake(what == OUT, a, b, around);
            } else if (what == WAIT || what == STOP) {
                rest(what == STOP, around);
            } else {
                change(what, a, b, around);
            }
        }

        private void change(int what, int a, int b, Surroundings around) {
            int following = next + 1;
            switch (what) {
                case SET:
                    registers[a] = b;
                    break;
                case ADD:
                    registers[a] = (registers[a] + registers[b]) % NUMBERS;
                    break;
                case JUMP:
                    following = registers[a] != 0 ? b : following;
                    break;
                case MAP:
                    views[a] = b;
                    break;
                case HANDLE:
                    handler = b;
                    break;
                case MASK:
                    isMasked = b == 1;
                    break;
                case BACK:
                    following = saved;
                    isMasked = false;
                    break;
                default:
                    clear(b);
                    around.giveBack(b);
                    break;
            }
            next = following;
        }

        private void clear(int page) {
            for (int place = 0; place < PLACES; place++) {
                words[page * PLACES + place] = 0;
            }
        }

        private void access(boolean isWritten, int register, int word, Surroundings around) {
            if (word == NONE) {
                fault();
                return;
            }
            around.reach(word / PLACES, isWritten);
            if (isWritten) {
                words[word] = registers[register];
            } else {
                registers[register] = words[word];
            }
            next++;
        }

        private int wordAt(int address) {
            if (address < 0 || address >= WORDS) {
                return NONE;
            }
            int page = views[address / PLACES];
            return page >= PAGES ? NONE : page * PLACES + address % PLACES;
        }

        private void tellOrTake(boolean isTold, int register, int port, Surroundings around) {
            around.countExit(TOLD);
            if (isTold) {
                around.tell(port, registers[register]);
            } else {
                registers[register] = port == CAUSE_PORT ? cause : around.takeFrom(port);
            }
            next++;
        }

        private void rest(boolean isForGood, Surroundings around) {
            around.countExit(RESTS);
            if (isForGood) {
                how = STOPPED;
            } else if (!around.isInterruptPending()) {
                how = WAITING;
            }
            next++;
        }

        private void fault() {
            if (handler == NONE || isMasked) {
                how = DEAD;
            } else {
                enterHandler(FAULT_CAUSE);
            }
        }

        void enterHandler(int why) {
            saved = next;
            next = handler;
            isMasked = true;
            cause = why;
        }

        void copyFrom(Machine other) {
            System.arraycopy(other.registers, 0, registers, 0, REGISTERS);
            System.arraycopy(other.views, 0, views, 0, PAGES);
            System.arraycopy(other.words, 0, words, 0, WORDS);
            next = other.next;
            handler = other.handler;
            saved = other.saved;
            cause = other.cause;
            isMasked = other.isMasked;
            how = other.how;
        }

        /** Whether two machines are the same; READY and WAITING are one here, as that hangs on time. */
        boolean isAs(Machine other) {
            return areRowsAlike(registers, other.registers) && areRowsAlike(views, other.views)
                && areRowsAlike(words, other.words) && next == other.next && handler == other.handler
                && saved == other.saved && cause == other.cause && isMasked == other.isMasked
                && (how == other.how || !hasEnded() && !other.hasEnded());
        }
    }

    /** The state of a guest, as snapshots and steps keep it. */
    private static final class State {
        final Machine machine = new Machine();
        final Numbers inputs = new Numbers();
        /** All that the plain machine needs to do the same again: see Replay. */
        final Numbers taken = new Numbers();
        final Numbers said = new Numbers();
        final Numbers interrupts = new Numbers();
        int steps;
        /** How many ticks are left until the timer goes off; 0 while it is not set. */
        int timer;
        boolean isTimerPending;
        boolean isSentPending;
        int clock;

        boolean isInterruptPending() {
            return isTimerPending || isSentPending;
        }

        void rouse() {
            if (machine.how == WAITING && isInterruptPending()) {
                machine.how = READY;
            }
        }

        void countTimerDown() {
            if (timer > 0) {
                timer--;
                isTimerPending = isTimerPending || timer == 0;
            }
            rouse();
        }

        /** Lets an interrupt in, if one is pending and may come in; returns whether it did. */
        boolean letInterruptIn() {
            if (!isInterruptPending() || machine.isMasked || machine.handler == NONE) {
                return false;
            }
            int why = isTimerPending ? TIMER_CAUSE : SENT_CAUSE;
            if (isTimerPending) {
                isTimerPending = false;
            } else {
                isSentPending = false;
            }
            interrupts.add(steps * CAUSES + why);
            machine.enterHandler(why);
            return true;
        }

        void copyFrom(State other) {
            machine.copyFrom(other.machine);
            inputs.copyFrom(other.inputs);
            taken.copyFrom(other.taken);
            said.copyFrom(other.said);
            interrupts.copyFrom(other.interrupts);
            steps = other.steps;
            timer = other.timer;
            isTimerPending = other.isTimerPending;
            isSentPending = other.isSentPending;
            clock = other.clock;
        }

        /** How many pages have other words than those of an other state; without one, than 0. */
        int countPagesUnlike(State other) {
            int[] words = machine.words;
            int[] otherWords = other == null ? new int[WORDS] : other.machine.words;
            int count = 0;
            for (int page = 0; page < PAGES; page++) {
                if (!arePagesAlike(words, page, otherWords, page)) {
                    count++;
                }
            }
            return count;
        }

        boolean isZero(int page) {
            for (int place = 0; place < PLACES; place++) {
                if (machine.words[page * PLACES + place] != 0) {
                    return false;
                }
            }
            return true;
        }
    }

    private static final class Snapshot {
        final Guest owner;
        final State state = new State();
        final int storedPages;

        Snapshot(Guest guest) {
            owner = guest;
            state.copyFrom(guest.state);
            Snapshot before = guest.lastSnapshot;
            storedPages = state.countPagesUnlike(before == null ? null : before.state);
        }
    }

    /** What the other host has of a guest that is followed, and what the outside has not yet. */
    private static final class Following {
        boolean isOn;
        final State step = new State();
        final Numbers cameSince = new Numbers();
        final Numbers held = new Numbers();

        void end() {
            isOn = false;
            held.size = 0;
        }
    }

    /** The frames of a host and whose turn it is there; a page of a guest is known by its key. */
    private static final class Host {
        final int number;
        final int[] frameOfKey = new int[GUESTS * PAGES];
        final int[] pagesIn = new int[FRAMES];
        final int[] usedAt = new int[FRAMES];
        boolean hasFailed;
        int tick;
        Guest ranLast;
        int row;

        Host(int number) {
            this.number = number;
            Arrays.fill(frameOfKey, NONE);
        }

        int countUsed() {
            int count = 0;
            for (int frame = 0; frame < FRAMES; frame++) {
                if (pagesIn[frame] > 0) {
                    count++;
                }
            }
            return count;
        }

        /** The first page that a frame holds; NONE for a free one. */
        int keyIn(int frame) {
            for (int key = 0; key < frameOfKey.length; key++) {
                if (frameOfKey[key] == frame) {
                    return key;
                }
            }
            return NONE;
        }

        void hold(int key, int spared) {
            int frame = lowestFree();
            if (frame == NONE) {
                frame = oldestBut(spared);
                moveAll(frame, NONE);
            }
            frameOfKey[key] = frame;
            pagesIn[frame]++;
            usedAt[frame] = tick;
        }

        void leave(int key) {
            int frame = frameOfKey[key];
            if (frame != NONE) {
                pagesIn[frame]--;
                frameOfKey[key] = NONE;
            }
        }

        void merge(int low, int high) {
            pagesIn[low] += pagesIn[high];
            usedAt[low] = Math.max(usedAt[low], usedAt[high]);
            moveAll(high, low);
        }

        private int lowestFree() {
            for (int frame = 0; frame < FRAMES; frame++) {
                if (pagesIn[frame] == 0) {
                    return frame;
                }
            }
            return NONE;
        }

        private int oldestBut(int spared) {
            int oldest = spared == 0 ? 1 : 0;
            for (int frame = 0; frame < FRAMES; frame++) {
                if (frame != spared && usedAt[frame] < usedAt[oldest]) {
                    oldest = frame;
                }
            }
            return oldest;
        }

        private void moveAll(int frame, int place) {
            for (int key = 0; key < frameOfKey.length; key++) {
                if (frameOfKey[key] == frame) {
                    frameOfKey[key] = place;
                }
            }
            pagesIn[frame] = 0;
        }
    }

    private static final class Guest extends Surroundings {
        final int number;
        final int weight;
        final boolean isSealed;
        final Program program = new Program();
        final State state = new State();
        final Following following = new Following();
        final Numbers wentOut = new Numbers();
        final int[] exits = new int[EXITS];
        Host host;
        Snapshot lastSnapshot;
        int scale = 1;
        int stolen;
        int ran;
        int sent;
        /** Sets of pages, a bit for each; toSend is NONE while the guest is not being moved. */
        int barePages = ALL_PAGES;
        int toSend = NONE;
        boolean isPaused;
        boolean wasRestored;
        boolean diedWithHost;

        Guest(int number, Host host, int weight, boolean isSealed) {
            this.number = number;
            this.host = host;
            this.weight = weight;
            this.isSealed = isSealed;
        }

        boolean isDead() {
            return state.machine.how == DEAD;
        }

        boolean isMoving() {
            return toSend != NONE;
        }

        boolean isBare(int page) {
            return (barePages & 1 << page) != 0;
        }

        int frameFor(int page) {
            return host.frameOfKey[keyOf(page)];
        }

        private int keyOf(int page) {
            return number * PAGES + page;
        }

        boolean canRunOn(Host some) {
            return host == some && !isPaused && state.machine.how == READY;
        }

        void runTick() {
            if (state.letInterruptIn()) {
                countExit(LET);
            }
            state.machine.doNext(program, this);
            state.steps++;
            ran++;
        }

        void advanceClock() {
            state.clock = (state.clock + scale) % NUMBERS;
        }

        void reach(int page, boolean isWritten) {
            int key = keyOf(page);
            int frame = host.frameOfKey[key];
            if (frame == NONE) {
                countExit(isBare(page) ? GIVEN : BROUGHT);
                barePages &= ~(1 << page);
                host.hold(key, NONE);
            } else if (isWritten && host.pagesIn[frame] > 1) {
                countExit(COPIED);
                host.leave(key);
                host.hold(key, frame);
            } else {
                host.usedAt[frame] = host.tick;
            }
            if (isWritten) {
                sendAgain(page);
            }
        }

        void giveBack(int page) {
            host.leave(keyOf(page));
            barePages |= 1 << page;
            sendAgain(page);
        }

        private void sendAgain(int page) {
            if (isMoving()) {
                toSend |= 1 << page;
            }
        }

        int takeFrom(int port) {
            int number = port == INPUT_PORT ? state.inputs.takeFirst() : state.clock;
            state.taken.add(number);
            return number;
        }

        void tell(int port, int number) {
            if (port != SAY_PORT) {
                state.timer = number;
                return;
            }
            state.said.add(number);
            if (following.isOn) {
                following.held.add(number);
            } else {
                wentOut.add(number);
            }
        }

        boolean isInterruptPending() {
            return state.isInterruptPending();
        }

        void countExit(int kind) {
            exits[kind]++;
        }

        void sendPages(int most) {
            int left = most;
            for (int page = 0; page < PAGES && left > 0; page++) {
                if ((toSend & 1 << page) != 0) {
                    toSend &= ~(1 << page);
                    sent++;
                    left--;
                }
            }
        }

        void leaveFrames() {
            for (int page = 0; page < PAGES; page++) {
                host.leave(keyOf(page));
            }
        }

        /** Takes a state that was kept; returns how many pages are swapped then. */
        int goBackTo(State kept) {
            leaveFrames();
            state.copyFrom(kept);
            barePages = 0;
            for (int page = 0; page < PAGES; page++) {
                if (state.isZero(page)) {
                    barePages |= 1 << page;
                }
            }
            toSend = NONE;
            wasRestored = true;
            diedWithHost = false;
            return PAGES - Integer.bitCount(barePages);
        }

        int keepStep() {
            following.step.copyFrom(state);
            following.cameSince.size = 0;
            return letHeldOut();
        }

        int letHeldOut() {
            int count = following.held.size;
            wentOut.addAll(following.held);
            following.held.size = 0;
            return count;
        }

        void goOnUpon(Host other) {
            host = other;
            goBackTo(following.step);
            state.inputs.addAll(following.cameSince);
            following.end();
        }

        void dieWithHost() {
            state.machine.how = DEAD;
            Arrays.fill(state.machine.words, 0);
            barePages = ALL_PAGES;
            following.end();
            diedWithHost = true;
        }
    }

    /** A plain machine that does a guest's steps again, with nothing but what came to it. */
    private static final class Replay extends Surroundings {
        final Machine machine = new Machine();
        final State record;
        int takenSoFar;
        int saidSoFar;
        boolean isSame = true;

        Replay(State record) {
            this.record = record;
        }

        boolean agrees(Program program) {
            int letIn = 0;
            for (int step = 0; step < record.steps; step++) {
                if (machine.hasEnded()) {
                    return false;
                }
                if (letIn < record.interrupts.size && record.interrupts.row[letIn] / CAUSES == step) {
                    machine.enterHandler(record.interrupts.row[letIn] % CAUSES);
                    letIn++;
                }
                machine.doNext(program, this);
            }
            return isSame && letIn == record.interrupts.size && takenSoFar == record.taken.size
                && saidSoFar == record.said.size && machine.isAs(record.machine);
        }

        int takeFrom(int port) {
            if (takenSoFar >= record.taken.size) {
                isSame = false;
                return 0;
            }
            takenSoFar++;
            return record.taken.row[takenSoFar - 1];
        }

        void tell(int port, int number) {
            if (port != SAY_PORT) {
                return;
            }
            isSame = isSame && saidSoFar < record.said.size && record.said.row[saidSoFar] == number;
            saidSoFar++;
        }

        boolean isInterruptPending() {
            return false;
        }

        void reach(int page, boolean isWritten) {
        }

        void giveBack(int page) {
        }

        void countExit(int kind) {
        }
    }
}
