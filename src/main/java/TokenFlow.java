import java.util.NoSuchElementException;

/**
 * Actors that fire, edges that hold tokens, a plan of firings that can be
 * repeated for ever, and its running.
 */
public final class TokenFlow {
    private static final int MOST_ACTORS = 8;
    private static final int MOST_EDGES = 12;
    private static final int MOST_AT_ONCE = 9;
    private static final int MOST_WAITING = 9;
    private static final int MOST_FIRINGS = 200;
    private static final int MOST_ROUNDS = 20;
    // Euclid needs fewer steps than this for any two longs.
    private static final int MOST_STEPS = 100;

    private static final int COUNT = 0;
    private static final int SUM = 1;
    private static final int SCALE = 2;
    private static final int STORE = 3;
    private static final int GREATEST = 4;
    private static final int MIX = 5;

    private final Actor[] actorRow;
    private final Edge[] edgeRow;
    private final int[] firingRow;
    private final Taken taken;
    private int actorCount;
    private int edgeCount;
    // 0 while the plan is void: a plan has at least one firing of each actor.
    private int planLength;

    public TokenFlow() {
        actorRow = new Actor[MOST_ACTORS];
        for (int n = 0; n < MOST_ACTORS; n++) {
            actorRow[n] = new Actor();
        }
        edgeRow = new Edge[MOST_EDGES];
        for (int e = 0; e < MOST_EDGES; e++) {
            edgeRow[e] = new Edge();
        }
        firingRow = new int[MOST_FIRINGS];
        taken = new Taken();
    }

    public int actor(int kind, int a) {
        if (kind < COUNT || kind > MIX) {
            return -1;
        }
        if (actorCount >= MOST_ACTORS) {
            return -2;
        }
        int number = actorCount;
        actorRow[number].kind = kind;
        actorRow[number].a = a;
        actorCount++;
        noteChange();
        return number;
    }

    public int edge(int from, int to, int gives, int takes, int waiting) {
        if (!isActor(from) || !isActor(to)) {
            return -1;
        }
        if (!isAtOnce(gives) || !isAtOnce(takes) || !isWaiting(waiting)) {
            return -2;
        }
        if (edgeCount >= MOST_EDGES) {
            return -3;
        }
        int number = edgeCount;
        Edge made = edgeRow[number];
        made.from = from;
        made.to = to;
        made.gives = gives;
        made.takes = takes;
        made.waiting = waiting;
        edgeCount++;
        noteChange();
        return number;
    }

    public boolean delay(int e, int waiting) {
        if (!isEdge(e) || !isWaiting(waiting)) {
            return false;
        }
        edgeRow[e].waiting = waiting;
        noteChange();
        return true;
    }

    public void reset() {
        bringToStart();
    }

    public void clear() {
        actorCount = 0;
        edgeCount = 0;
        noteChange();
    }

    public int actors() {
        return actorCount;
    }

    public int edges() {
        return edgeCount;
    }

    public int plan() throws IllegalStateException, ArithmeticException,
            UnsupportedOperationException, NoSuchElementException {
        planLength = 0;
        spreadRepetitions();
        if (!isConnected()) {
            throw new IllegalStateException("the network is not connected");
        }
        if (!isBalanced()) {
            throw new ArithmeticException("there are no repetitions");
        }
        reduceRepetitions();
        long firings = sumOfRepetitions();
        if (firings > MOST_FIRINGS) {
            throw new UnsupportedOperationException("the repetitions are too many");
        }
        if (!layOut((int) firings)) {
            throw new NoSuchElementException("no actor can fire though firings are left");
        }
        planLength = (int) firings;
        makeRoomForTokens();
        bringToStart();
        return planLength;
    }

    public int planned() {
        return planLength;
    }

    public int firing(int i) {
        return i >= 0 && i < planLength ? firingRow[i] : -1;
    }

    public int repetitions(int n) {
        return planLength > 0 && isActor(n) ? (int) actorRow[n].repetitions : 0;
    }

    public int bound(int e) {
        return planLength > 0 && isEdge(e) ? edgeRow[e].bound : -1;
    }

    public int run(int n) throws IllegalStateException, IllegalArgumentException {
        if (planLength == 0) {
            throw new IllegalStateException("there is no plan");
        }
        if (n < 1 || n > MOST_ROUNDS) {
            throw new IllegalArgumentException("a plan is run 1 to 20 times");
        }
        for (int round = 0; round < n; round++) {
            for (int i = 0; i < planLength; i++) {
                fire(firingRow[i]);
            }
        }
        return n * planLength;
    }

    public int tokens(int e) {
        return isEdge(e) ? edgeRow[e].count : -1;
    }

    public int token(int e, int k) {
        return isEdge(e) ? edgeRow[e].look(k) : 0;
    }

    public int value(int n) {
        return isActor(n) ? actorRow[n].value : 0;
    }

    public int state(int n) {
        return isActor(n) ? actorRow[n].state : 0;
    }

    private boolean isActor(int n) {
        return n >= 0 && n < actorCount;
    }

    private boolean isEdge(int e) {
        return e >= 0 && e < edgeCount;
    }

    private static boolean isAtOnce(int number) {
        return number >= 1 && number <= MOST_AT_ONCE;
    }

    private static boolean isWaiting(int number) {
        return number >= 0 && number <= MOST_WAITING;
    }

    private void noteChange() {
        planLength = 0;
        bringToStart();
    }

    private void bringToStart() {
        for (int n = 0; n < actorCount; n++) {
            actorRow[n].bringToStart();
        }
        for (int e = 0; e < edgeCount; e++) {
            edgeRow[e].bringToStart();
        }
    }

    /**
     * Gives each actor that edges join to actor 0 repetitions that suit the
     * edges by which it was reached; an actor that is not reached keeps 0.
     */
    private void spreadRepetitions() {
        for (int n = 0; n < actorCount; n++) {
            actorRow[n].repetitions = n == 0 ? 1 : 0;
        }
        // A round reaches one more actor at least, as long as one can be reached.
        for (int round = 1; round < actorCount; round++) {
            for (int e = 0; e < edgeCount; e++) {
                spreadAlong(edgeRow[e]);
            }
        }
    }

    private void spreadAlong(Edge edge) {
        Actor from = actorRow[edge.from];
        Actor to = actorRow[edge.to];
        if (from.repetitions > 0 && to.repetitions == 0) {
            reach(to, from.repetitions * edge.gives, edge.takes);
        } else if (to.repetitions > 0 && from.repetitions == 0) {
            reach(from, to.repetitions * edge.takes, edge.gives);
        }
    }

    /**
     * The actor's repetitions are moved / each: all others are multiplied, so
     * that nothing is divided. At most 7 actors are reached, so no number
     * passes 9 to the power of 14, which a long holds.
     */
    private void reach(Actor reached, long moved, int each) {
        for (int n = 0; n < actorCount; n++) {
            actorRow[n].repetitions *= each;
        }
        reached.repetitions = moved;
    }

    private boolean isConnected() {
        for (int n = 0; n < actorCount; n++) {
            if (actorRow[n].repetitions == 0) {
                return false;
            }
        }
        return actorCount > 0;
    }

    private boolean isBalanced() {
        for (int e = 0; e < edgeCount; e++) {
            Edge edge = edgeRow[e];
            long given = actorRow[edge.from].repetitions * edge.gives;
            if (given != actorRow[edge.to].repetitions * edge.takes) {
                return false;
            }
        }
        return true;
    }

    private void reduceRepetitions() {
        long common = 0;
        for (int n = 0; n < actorCount; n++) {
            common = greatestDivisor(actorRow[n].repetitions, common);
        }
        if (common > 1) {
            for (int n = 0; n < actorCount; n++) {
                actorRow[n].repetitions /= common;
            }
        }
    }

    private static long greatestDivisor(long first, long second) {
        long divisor = first;
        long rest = second;
        for (int step = 0; step < MOST_STEPS && rest != 0; step++) {
            long next = divisor % rest;
            divisor = rest;
            rest = next;
        }
        return divisor;
    }

    private long sumOfRepetitions() {
        long sum = 0;
        for (int n = 0; n < actorCount; n++) {
            sum += actorRow[n].repetitions;
        }
        return sum;
    }

    /** Writes the firings down; false if at some time no actor can fire. */
    private boolean layOut(int firings) {
        for (int n = 0; n < actorCount; n++) {
            actorRow[n].fired = 0;
        }
        for (int e = 0; e < edgeCount; e++) {
            edgeRow[e].beginCounting();
        }
        for (int i = 0; i < firings && i < MOST_FIRINGS; i++) {
            int next = nextToFire();
            if (next < 0) {
                return false;
            }
            firingRow[i] = next;
            countFiring(next);
        }
        return true;
    }

    private int nextToFire() {
        for (int n = 0; n < actorCount; n++) {
            if (actorRow[n].fired < actorRow[n].repetitions && hasEnough(n)) {
                return n;
            }
        }
        return -1;
    }

    private boolean hasEnough(int n) {
        for (int e = 0; e < edgeCount; e++) {
            if (edgeRow[e].to == n && edgeRow[e].lying < edgeRow[e].takes) {
                return false;
            }
        }
        return true;
    }

    private void countFiring(int n) {
        actorRow[n].fired++;
        for (int e = 0; e < edgeCount; e++) {
            edgeRow[e].countFiring(n);
        }
    }

    private void makeRoomForTokens() {
        for (int e = 0; e < edgeCount; e++) {
            edgeRow[e].makeRoom();
        }
    }

    private void fire(int n) {
        taken.forget();
        for (int e = 0; e < edgeCount; e++) {
            if (edgeRow[e].to == n) {
                edgeRow[e].handOver(taken);
            }
        }
        Actor actor = actorRow[n];
        actor.work(taken);
        for (int e = 0; e < edgeCount; e++) {
            if (edgeRow[e].from == n) {
                edgeRow[e].receive(actor.value);
            }
        }
    }

    private static final class Actor {
        int kind;
        int a;
        int state;
        int value;
        // A long, for it is known only later whether they are few enough.
        long repetitions;
        int fired;

        void bringToStart() {
            state = a;
            value = 0;
        }

        void work(Taken tokens) {
            switch (kind) {
                case COUNT:
                    value = state;
                    state = state + 1;
                    break;
                case SUM:
                    value = tokens.sum + a;
                    break;
                case SCALE:
                    value = tokens.sum * a;
                    break;
                case STORE:
                    state = state + tokens.sum;
                    value = state;
                    break;
                case GREATEST:
                    value = tokens.count == 0 ? a : tokens.greatest;
                    break;
                default:
                    value = tokens.mix + a;
                    break;
            }
        }
    }

    /** What the values of all kinds need to know of the tokens that a firing took. */
    private static final class Taken {
        int count;
        int sum;
        int greatest;
        int mix;

        void forget() {
            count = 0;
            sum = 0;
            greatest = 0;
            mix = 0;
        }

        void add(int number) {
            greatest = count == 0 ? number : Math.max(greatest, number);
            count++;
            sum = sum + number;
            mix = 31 * mix + number;
        }
    }

    /** An edge and its tokens, which lie in a ring so that none is ever moved. */
    private static final class Edge {
        int from;
        int to;
        int gives;
        int takes;
        int waiting;
        // The number of tokens while a plan is laid out, when none is moved.
        int lying;
        int bound;
        private int[] ring;
        private int oldest;
        int count;

        Edge() {
            ring = new int[MOST_WAITING];
        }

        void bringToStart() {
            oldest = 0;
            count = waiting;
            for (int k = 0; k < waiting && k < ring.length; k++) {
                ring[k] = 0;
            }
        }

        void beginCounting() {
            lying = waiting;
            bound = waiting;
        }

        void countFiring(int n) {
            if (to == n) {
                lying -= takes;
            }
            if (from == n) {
                lying += gives;
            }
            bound = Math.max(bound, lying);
        }

        /** Grows at least twofold, so that many plans together make few rings. */
        void makeRoom() {
            if (ring.length < bound) {
                ring = new int[Math.max(bound, 2 * ring.length)];
            }
        }

        void handOver(Taken tokens) {
            for (int k = 0; k < takes && count > 0; k++) {
                tokens.add(look(0));
                oldest = place(1);
                count--;
            }
        }

        void receive(int first) {
            for (int k = 0; k < gives && count < ring.length; k++) {
                ring[place(count)] = first + k;
                count++;
            }
        }

        int look(int k) {
            return k >= 0 && k < count ? ring[place(k)] : 0;
        }

        /** Where the k-th token behind the oldest lies, for k of 0 to the ring's length. */
        private int place(int k) {
            int straight = oldest + k;
            return straight < ring.length ? straight : straight - ring.length;
        }
    }
}
