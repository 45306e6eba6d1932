import java.util.Arrays;
import java.util.function.Consumer;
import java.util.function.Supplier;

/**
 * The boundary cases that the document names: a test or more for each sentence, which
 * begins with the sentence's words. No object is used for more than 512 calls.
 */
public final class TokenFlowBoundaries {
    private static final int COUNT = 0;
    private static final int SUM = 1;
    private static final int SCALE = 2;
    private static final int STORE = 3;
    private static final int GREATEST = 4;
    private static final int MIX = 5;

    private static final int MIN = Integer.MIN_VALUE;
    private static final int MAX = Integer.MAX_VALUE;

    private static int wrong = 0;
    private static int tests = 0;
    private static String sentence = "";

    public static void main(String[] args) {
        terms();
        values();
        wraps();
        networks();
        plans();
        bounds();
        changesAndRefusals();
        actorsAndEdges();
        startsAndClears();
        looks();
        System.out.println(tests + " tests, " + wrong + " answers that are not as due");
        if (wrong != 0) {
            System.exit(1);
        }
    }

    // ---- Terms: what there is

    private static void terms() {
        used512Times();
        atMost8ActorsAnd12Edges();
        numberedInOrder();
        edgeFromAndToTheSame();
        givesAndTakes1To9();
        waiting0To9AllZero();
        tokensAreInts();
        oldestFirst();
        oldestFirstInAFullRow();
        numberIsAnyInt();
        takesInOrderOfNumbers();
        takesBeforeItPuts();
        putsValuePlusK();
    }

    private static void used512Times() {
        sentence("An object is used for at most 512 calls after it has been made");
        TokenFlow x = new TokenFlow();
        x.actor(COUNT, 5);
        x.plan();
        for (int call = 3; call < 512; call++) {
            due("call " + call + ", run(20)", run(x, 20), "20");
        }
        due("call 512, state(0)", x.state(0), 5 + 509 * 20);

        TokenFlow y = sums(2);
        y.edge(0, 1, 9, 9, 0);
        for (int call = 4; call < 512; call += 2) {
            y.delay(0, call % 10);
            due("call " + (call + 1) + ", plan()", plan(y), "2");
        }
        due("call 512, bound(0)", y.bound(0), 9);
    }

    private static void atMost8ActorsAnd12Edges() {
        sentence("There are at most 8 ACTORS and 12 EDGES");
        TokenFlow x = new TokenFlow();
        for (int n = 0; n < 8; n++) {
            due("actor " + n, x.actor(COUNT, 10 * n), n);
        }
        due("actor 8", x.actor(COUNT, 80), -2);
        for (int e = 0; e < 12; e++) {
            due("edge " + e, x.edge(e % 7, e % 7 + 1, 1, 1, 1), e);
        }
        due("edge 12", x.edge(0, 1, 1, 1, 1), -3);
        due("actors()", x.actors(), 8);
        due("edges()", x.edges(), 12);
        due("plan() of all", plan(x), "8");
        due("run(1) of all", run(x, 1), "8");
        due("the last actor's value", x.value(7), 70);
        due("the last actor's state", x.state(7), 71);
        due("the last actor's repetitions", x.repetitions(7), 1);
        due("the last actor's firing", x.firing(7), 7);
        due("the last edge's bound", x.bound(11), 2);
        due("the last edge's token", x.token(11, 0), 40);
    }

    private static void numberedInOrder() {
        sentence("each numbered from 0 in the order in which they were made");
        TokenFlow x = new TokenFlow();
        x.actor(COUNT, 11);
        x.actor(6, 99);
        x.actor(STORE, 22);
        x.actor(-1, 99);
        due("the actor behind two refused ones", x.actor(SUM, 33), 2);
        due("states", x.state(0) + " " + x.state(1) + " " + x.state(2), "11 22 33");
        x.edge(0, 1, 1, 1, 3);
        x.edge(0, 3, 1, 1, 9);
        x.edge(0, 1, 0, 1, 9);
        due("the edge behind two refused ones", x.edge(1, 2, 1, 1, 5), 1);
        due("tokens", x.tokens(0) + " " + x.tokens(1), "3 5");
    }

    private static void edgeFromAndToTheSame() {
        sentence("an actor FROM which and one TO which it goes (which may be the same)");
        TokenFlow x = sums(8);
        due("a loop at the first", x.edge(0, 0, 1, 1, 1), 0);
        due("a loop at the last", x.edge(7, 7, 1, 1, 1), 1);
        TokenFlow y = sums(1);
        due("a loop at the only one", y.edge(0, 0, 1, 1, 1), 0);
        due("plan()", plan(y), "1");
    }

    private static void givesAndTakes1To9() {
        sentence("GIVES and TAKES (1 .. 9 each)");
        int[] pair = {1, 2, 8, 9};
        for (int gives : pair) {
            for (int takes : pair) {
                TokenFlow x = sums(2);
                String edge = "gives " + gives + ", takes " + takes;
                due(edge, x.edge(0, 1, gives, takes, 0), 0);
                plan(x);
                due(edge + ": given as taken", x.repetitions(0) * gives, x.repetitions(1) * takes);
            }
        }
        for (int no : new int[] {0, 10, -1, -9, MIN, MAX}) {
            TokenFlow x = sums(2);
            due("gives " + no, x.edge(0, 1, no, 1, 0), -2);
            due("takes " + no, x.edge(0, 1, 1, no, 0), -2);
            due("edges()", x.edges(), 0);
        }
        TokenFlow nine = counterToStore(9, 9, 0);
        run(nine, 1);
        due("nine given and taken", nine.value(1), 1 + 2 + 3 + 4 + 5 + 6 + 7 + 8 + 9);
        TokenFlow one = counterToStore(1, 1, 0);
        run(one, 1);
        due("one given and taken", one.value(1), 1);
    }

    private static void waiting0To9AllZero() {
        sentence("WAITING, 0 .. 9, the number of tokens that lie on it at the start, all of them 0");
        for (int waiting = 0; waiting <= 9; waiting++) {
            TokenFlow x = counterToStore(1, 1, waiting);
            due("tokens at the start", x.tokens(0), waiting);
            run(x, 11);
            due("tokens behind a run", x.tokens(0), waiting);
            due("what came through", x.value(1), sumTo(11 - waiting));
            x.reset();
            due("tokens at the start again", x.tokens(0), waiting);
            for (int k = 0; k < waiting; k++) {
                due("token(0, " + k + ")", x.token(0, k), 0);
            }
        }
        for (int no : new int[] {-1, 10, MIN, MAX}) {
            TokenFlow x = sums(2);
            due("waiting " + no, x.edge(0, 1, 1, 1, no), -2);
            due("edges()", x.edges(), 0);
        }
    }

    private static void tokensAreInts() {
        sentence("Tokens are ints");
        for (int token : new int[] {MIN, MIN + 1, -1, 0, 1, MAX}) {
            TokenFlow x = new TokenFlow();
            x.actor(SUM, token);
            x.actor(SUM, 0);
            x.edge(0, 1, 1, 1, 1);
            plan(x);
            run(x, 1);
            due("the token that lies", x.token(0, 0), token);
            run(x, 1);
            due("the token that was taken", x.value(1), token);
        }
    }

    private static void oldestFirst() {
        sentence("on an edge the oldest is taken first");
        TokenFlow x = new TokenFlow();
        x.actor(COUNT, 1);
        x.actor(MIX, 0);
        x.edge(0, 1, 3, 2, 0);
        plan(x);
        due("plan", firings(x), "[0, 0, 1, 1, 1]");
        run(x, 1);
        due("the last two of 1 2 3 2 3 4", x.value(1), 3 * 31 + 4);
        TokenFlow y = new TokenFlow();
        y.actor(COUNT, 1);
        y.actor(MIX, 0);
        y.edge(0, 1, 1, 1, 2);
        plan(y);
        int[] taken = {0, 0, 1, 2, 3, 4};
        for (int token : taken) {
            run(y, 1);
            due("the oldest of three", y.value(1), token);
        }
    }

    /** Bounds on both sides of 9 and of 18, where a row of waiting tokens would be full. */
    private static void oldestFirstInAFullRow() {
        sentence("on an edge the oldest is taken first (a full row that goes round)");
        int[][] edges = {{9, 1, 0, 9}, {8, 1, 0, 8}, {9, 1, 1, 10}, {9, 1, 8, 17}, {9, 1, 9, 18}, {5, 2, 9, 19}};
        for (int[] edge : edges) {
            TokenFlow x = counterToStore(edge[0], edge[1], edge[2]);
            String name = Arrays.toString(edge);
            due(name + " bound(0)", x.bound(0), edge[3]);
            int[] stream = new int[edge[2] + 20 * x.repetitions(0) * edge[0]];
            int end = edge[2];
            int rounds = 0;
            for (int n : new int[] {1, 1, 1, 2, 15}) {
                run(x, n);
                for (int count = rounds * x.repetitions(0); count < (rounds + n) * x.repetitions(0); count++) {
                    for (int k = 0; k < edge[0]; k++) {
                        stream[end++] = 1 + count + k;
                    }
                }
                rounds += n;
                int sum = Arrays.stream(stream, 0, end - edge[2]).sum();
                due(name + " all that was taken", x.state(1), sum);
                for (int k = 0; k < edge[2]; k++) {
                    due(name + " token(0, " + k + ")", x.token(0, k), stream[end - edge[2] + k]);
                }
            }
        }
    }

    private static void numberIsAnyInt() {
        sentence("An actor has a kind, a number a (any int), and a STATE, an int, a at the start");
        for (int kind = 0; kind < 6; kind++) {
            for (int a : new int[] {MIN, MIN + 1, -1, 0, 1, MAX - 1, MAX}) {
                TokenFlow x = new TokenFlow();
                due("actor(" + kind + ", " + a + ")", x.actor(kind, a), 0);
                due("its state", x.state(0), a);
                plan(x);
                run(x, 3);
                x.reset();
                due("its state at the start again", x.state(0), a);
            }
        }
    }

    private static void takesInOrderOfNumbers() {
        sentence("takes from each edge to it, in the order of their numbers, as many tokens as that edge takes");
        TokenFlow x = new TokenFlow();
        x.actor(MIX, 0);
        x.actor(SUM, 7);
        x.actor(SUM, 3);
        x.edge(2, 0, 2, 2, 0);
        x.edge(1, 0, 1, 1, 0);
        x.edge(2, 0, 1, 1, 0);
        plan(x);
        run(x, 1);
        due("MIX of 3 4, then 7, then 3", x.value(0), ((3 * 31 + 4) * 31 + 7) * 31 + 3);
    }

    private static void takesBeforeItPuts() {
        sentence("with all of them in this order it works out its VALUE; then it puts");
        TokenFlow x = new TokenFlow();
        x.actor(SUM, 4);
        x.edge(0, 0, 9, 9, 9);
        plan(x);
        run(x, 1);
        due("of nine waiting ones", x.value(0), 4);
        due("tokens(0)", x.tokens(0), 9);
        run(x, 1);
        due("of the nine that it put", x.value(0), 4 * 9 + 36 + 4);
        due("the first that it put", x.token(0, 0), 76);
    }

    private static void putsValuePlusK() {
        sentence("as many tokens as that edge gives: the value, the value plus 1, plus 2, and so on");
        TokenFlow x = new TokenFlow();
        x.actor(SUM, 40);
        x.actor(SUM, 0);
        x.edge(0, 1, 9, 9, 9);
        x.edge(0, 1, 1, 1, 2);
        x.edge(0, 1, 3, 3, 3);
        plan(x);
        run(x, 1);
        for (int k = 0; k < 9; k++) {
            due("token(0, " + k + ") of nine", x.token(0, k), 40 + k);
        }
        due("token(1, 0), that waited", x.token(1, 0), 0);
        due("token(1, 1), the only one", x.token(1, 1), 40);
        due("tokens(1)", x.tokens(1), 2);
        for (int k = 0; k < 3; k++) {
            due("token(2, " + k + "), from the value on again", x.token(2, k), 40 + k);
        }
    }

    // ---- Terms: the value by kind

    private static void values() {
        valuesWithoutTokens();
        zerosAreTakenToo();
        countsStateThenPlusOne();
        storesNewState();
        greatestToken();
        mixBeginsWithZero();
    }

    private static void valuesWithoutTokens() {
        sentence("S being the sum of the tokens taken (0 if none) .. a if none was taken");
        for (int a : new int[] {MIN, -1, 0, 1, 9, MAX}) {
            int[] first = {a, a, 0, a, a, a};
            int[] second = {a + 1, a, 0, a, a, a};
            int[] state = {a + 2, a, a, a, a, a};
            for (int kind = 0; kind < 6; kind++) {
                TokenFlow x = new TokenFlow();
                x.actor(kind, a);
                plan(x);
                String name = "kind " + kind + ", a " + a;
                run(x, 1);
                due(name + ": first value", x.value(0), first[kind]);
                run(x, 1);
                due(name + ": second value", x.value(0), second[kind]);
                due(name + ": state", x.state(0), state[kind]);
            }
        }
    }

    private static void zerosAreTakenToo() {
        sentence("S being the sum of the tokens taken (tokens that are 0 are taken as well)");
        int[] due = {5, 5, 0, 5, 0, 5};
        for (int kind = 0; kind < 6; kind++) {
            due("kind " + kind + " of a 0", valueOf(kind, 5, 0), due[kind]);
        }
    }

    private static void countsStateThenPlusOne() {
        sentence("COUNT: the state; after that the state becomes the state plus 1");
        TokenFlow x = fed(COUNT, -1, 100, 200);
        due("value(0)", x.value(0), -1);
        due("state(0)", x.state(0), 0);
        run(x, 1);
        due("value(0) at the state 0", x.value(0), 0);
        due("state(0)", x.state(0), 1);
    }

    private static void storesNewState() {
        sentence("STORE: the state becomes the state plus S; the value is the new state");
        TokenFlow x = fed(STORE, 10, 1, -4);
        due("value(0)", x.value(0), 7);
        due("state(0)", x.state(0), 7);
        run(x, 1);
        due("value(0) once more", x.value(0), 4);
        due("state(0) once more", x.state(0), 4);
    }

    private static void greatestToken() {
        sentence("GREATEST: the greatest token taken, a if none was taken");
        due("of the least int", valueOf(GREATEST, MAX, MIN), MIN);
        due("of -1", valueOf(GREATEST, 0, -1), -1);
        due("of the ends", valueOf(GREATEST, 0, MIN, MAX), MAX);
        due("of the ends the other way", valueOf(GREATEST, 0, MAX, MIN), MAX);
        due("in front", valueOf(GREATEST, 9, 3, 2, 1), 3);
        due("in the middle", valueOf(GREATEST, 9, 1, 3, 2), 3);
        due("behind", valueOf(GREATEST, 9, 1, 2, 3), 3);
        due("of seven", valueOf(GREATEST, 9, -7, -6, -5, -1, -2, -3, -4), -1);
        TokenFlow x = fed(GREATEST, 0, 50);
        x.reset();
        run(x, 1);
        due("the one firing's alone", x.value(0), 50);
        TokenFlow falls = new TokenFlow();
        falls.actor(SCALE, -1);
        falls.actor(COUNT, 1);
        falls.actor(GREATEST, 0);
        falls.edge(1, 0, 1, 1, 0);
        falls.edge(0, 2, 1, 1, 0);
        plan(falls);
        run(falls, 2);
        due("no token of an earlier firing", falls.value(2), -2);
    }

    private static void mixBeginsWithZero() {
        sentence("MIX: 0 at first; for each token taken, in order, 31 times the value plus the token");
        TokenFlow x = fed(MIX, 5, 2, 3);
        due("value(0)", x.value(0), 2 * 31 + 3 + 5);
        run(x, 1);
        due("value(0), from 0 again", x.value(0), 2 * 31 + 3 + 5);
        due("the other way round", valueOf(MIX, 5, 3, 2), 3 * 31 + 2 + 5);
        due("state(0)", x.state(0), 5);
    }

    // ---- Terms: "All sums and products wrap."

    private static void wraps() {
        countWraps();
        sumWraps();
        scaleWraps();
        storeWraps();
        mixWraps();
        tokensPutWrap();
    }

    private static void countWraps() {
        sentence("All sums and products wrap. (COUNT)");
        TokenFlow x = fed(COUNT, MAX);
        due("value(0)", x.value(0), MAX);
        due("state(0)", x.state(0), MIN);
        run(x, 1);
        due("value(0) behind the wrap", x.value(0), MIN);
        due("state(0) behind the wrap", x.state(0), MIN + 1);
    }

    private static void sumWraps() {
        sentence("All sums and products wrap. (SUM)");
        due("S, the last that does not", valueOf(SUM, 0, MAX - 1, 1), MAX);
        due("S, the first that does", valueOf(SUM, 0, MAX, 1), MIN);
        due("S, the last downwards", valueOf(SUM, 0, MIN + 1, -1), MIN);
        due("S, the first downwards", valueOf(SUM, 0, MIN, -1), MAX);
        due("S, there and back", valueOf(SUM, 0, MAX, 1, -1), MAX);
        due("S, all round", valueOf(SUM, 0, MAX, MAX, 2), 0);
        due("S plus a, the last", valueOf(SUM, 1, MAX - 1), MAX);
        due("S plus a, the first", valueOf(SUM, 1, MAX), MIN);
        due("S plus a, downwards", valueOf(SUM, -1, MIN), MAX);
        due("S plus a, both the least", valueOf(SUM, MIN, MIN), 0);
    }

    private static void scaleWraps() {
        sentence("All sums and products wrap. (SCALE)");
        due("the last that does not", valueOf(SCALE, 2, (1 << 30) - 1), MAX - 1);
        due("the first that does", valueOf(SCALE, 2, 1 << 30), MIN);
        due("the least, times -1", valueOf(SCALE, -1, MIN), MIN);
        due("-1, times the least", valueOf(SCALE, MIN, -1), MIN);
        due("the greatest, times -1", valueOf(SCALE, -1, MAX), MIN + 1);
        due("the greatest, squared", valueOf(SCALE, MAX, MAX), 1);
        due("to 0", valueOf(SCALE, 1 << 16, 1 << 16), 0);
        due("S before it is scaled", valueOf(SCALE, 1, MAX, 1), MIN);
        due("S and the product", valueOf(SCALE, 2, MAX, 1), 0);
    }

    private static void storeWraps() {
        sentence("All sums and products wrap. (STORE)");
        TokenFlow up = fed(STORE, MAX - 1, 1);
        due("value(0), the last that does not", up.value(0), MAX);
        run(up, 1);
        due("value(0), the first that does", up.value(0), MIN);
        due("state(0)", up.state(0), MIN);
        TokenFlow down = fed(STORE, MIN + 1, -1);
        due("value(0), the last downwards", down.value(0), MIN);
        run(down, 1);
        due("value(0), the first downwards", down.value(0), MAX);
        due("state(0) downwards", down.state(0), MAX);
        due("S", valueOf(STORE, 0, MAX, 1), MIN);
    }

    private static void mixWraps() {
        sentence("All sums and products wrap. (MIX)");
        due("31 times, the last that does not", valueOf(MIX, 0, 69273666, 0), 2147483646);
        due("31 times, the first that does", valueOf(MIX, 0, 69273667, 0), -2147483619);
        due("31 times, downwards", valueOf(MIX, 0, -69273667, 0), 2147483619);
        due("plus the token, the last", valueOf(MIX, 0, 69273666, 1), MAX);
        due("plus the token, the first", valueOf(MIX, 0, 69273666, 2), MIN);
        due("plus the token, downwards", valueOf(MIX, 0, -69273666, -3), MAX);
        due("plus a, the last", valueOf(MIX, 1, MAX - 1), MAX);
        due("plus a, the first", valueOf(MIX, 1, MAX), MIN);
        due("plus a, downwards", valueOf(MIX, -1, MIN), MAX);
        due("31 to the power of 6, the last that does not", mixOfOneAndZeros(6), 887503681);
        due("31 to the power of 7, the first that does", mixOfOneAndZeros(7), 1742810335);
    }

    private static int mixOfOneAndZeros(int zeros) {
        TokenFlow x = new TokenFlow();
        x.actor(MIX, 0);
        x.actor(SUM, 1);
        x.edge(1, 0, 1, 1, 0);
        x.edge(1, 0, zeros, zeros, zeros);
        plan(x);
        run(x, 1);
        return x.value(0);
    }

    private static void tokensPutWrap() {
        sentence("All sums and products wrap. (the value plus 1, plus 2, and so on)");
        TokenFlow x = new TokenFlow();
        x.actor(SUM, MAX - 1);
        x.actor(SUM, 0);
        x.edge(0, 1, 9, 9, 9);
        plan(x);
        run(x, 1);
        int[] due = {MAX - 1, MAX, MIN, MIN + 1, MIN + 2, MIN + 3, MIN + 4, MIN + 5, MIN + 6};
        for (int k = 0; k < due.length; k++) {
            due("token(0, " + k + ")", x.token(0, k), due[k]);
        }
    }

    // ---- Terms: the network and its repetitions

    private static void networks() {
        connectedIfItHasAnActor();
        connectedFromEachToEach();
        connectedEitherWay();
        noRepetitions();
        leastRepetitions();
        moreThan200();
        firstThatApplies();
    }

    private static void connectedIfItHasAnActor() {
        sentence("THE NETWORK IS CONNECTED if it has an actor");
        TokenFlow x = new TokenFlow();
        due("none", plan(x), "IllegalStateException");
        x.actor(6, 0);
        due("a refused one", plan(x), "IllegalStateException");
        x.actor(SUM, 0);
        due("one", plan(x), "1");
        x.clear();
        due("none any more", plan(x), "IllegalStateException");
    }

    private static void connectedFromEachToEach() {
        sentence("and one comes from each actor to each other one along edges");
        TokenFlow two = sums(2);
        due("two apart", plan(two), "IllegalStateException");
        two.edge(0, 0, 1, 1, 1);
        two.edge(1, 1, 1, 1, 1);
        due("two apart with loops", plan(two), "IllegalStateException");
        two.edge(0, 1, 1, 1, 0);
        due("two joined", plan(two), "2");
        for (int left = 0; left < 7; left++) {
            TokenFlow x = sums(8);
            for (int n = 0; n < 7; n++) {
                if (n != left) {
                    x.edge(n, n + 1, 1, 1, 0);
                }
            }
            due("a chain without its edge " + left, plan(x), "IllegalStateException");
            x.edge(left, left + 1, 1, 1, 0);
            due("a chain with it", plan(x), "8");
        }
        TokenFlow rings = sums(8);
        for (int n = 0; n < 8; n++) {
            rings.edge(n, n % 4 == 3 ? n - 3 : n + 1, 1, 1, 1);
        }
        due("two rings", plan(rings), "IllegalStateException");
        rings.edge(6, 1, 1, 1, 0);
        due("two rings joined", plan(rings), "8");
    }

    private static void connectedEitherWay() {
        sentence("no matter which way they point");
        TokenFlow nines = sums(8);
        for (int n = 6; n >= 0; n--) {
            nines.edge(n, n + 1, 9, 9, 0);
        }
        due("a chain of nines made from its end", plan(nines), "8");
        for (int ways = 0; ways < 128; ways++) {
            TokenFlow up = sums(8);
            TokenFlow down = sums(8);
            for (int n = 0; n < 7; n++) {
                boolean forth = (ways >> n & 1) == 0;
                up.edge(forth ? n : n + 1, forth ? n + 1 : n, 1, 1, 0);
                int m = 6 - n;
                down.edge(forth ? m : m + 1, forth ? m + 1 : m, 1, 1, 0);
            }
            due("a chain made from its beginning, ways " + ways, plan(up), "8");
            due("a chain made from its end, ways " + ways, plan(down), "8");
        }
        for (int middle = 0; middle < 8; middle++) {
            TokenFlow out = sums(8);
            TokenFlow in = sums(8);
            for (int n = 0; n < 8; n++) {
                if (n != middle) {
                    out.edge(middle, n, 1, 1, 0);
                    in.edge(n, middle, 1, 1, 0);
                }
            }
            due("a star out of " + middle, plan(out), "8");
            due("a star into " + middle, plan(in), "8");
        }
    }

    private static void noRepetitions() {
        sentence("ArithmeticException if there are no repetitions");
        int[][] loops = {{1, 2}, {2, 1}, {9, 8}, {8, 9}, {1, 9}, {9, 1}};
        for (int[] loop : loops) {
            TokenFlow x = sums(1);
            x.edge(0, 0, loop[0], loop[1], 9);
            due("a loop " + Arrays.toString(loop), plan(x), "ArithmeticException");
        }
        TokenFlow near = sums(2);
        near.edge(0, 1, 9, 8, 0);
        due("9 to 8", plan(near), "17");
        near.edge(0, 1, 8, 7, 0);
        due("9 to 8 and 8 to 7", plan(near), "ArithmeticException");
        TokenFlow same = sums(2);
        same.edge(0, 1, 2, 3, 0);
        same.edge(0, 1, 6, 9, 0);
        same.edge(1, 0, 3, 2, 9);
        due("2 to 3, 6 to 9, and 3 to 2 back", plan(same), "5");
        same.edge(1, 0, 2, 3, 9);
        due("2 to 3 back", plan(same), "ArithmeticException");
        TokenFlow round = sums(8);
        for (int n = 0; n < 7; n++) {
            round.edge(n, n + 1, n % 2 == 0 ? 9 : 8, n % 2 == 0 ? 8 : 9, 9);
        }
        round.edge(7, 0, 8, 9, 9);
        due("a ring of eight that comes out even", plan(round), "68");
        TokenFlow odd = sums(8);
        for (int n = 0; n < 7; n++) {
            odd.edge(n, n + 1, n % 2 == 0 ? 9 : 8, n % 2 == 0 ? 8 : 9, 9);
        }
        odd.edge(7, 0, 7, 8, 9);
        due("a ring of eight that does not", plan(odd), "ArithmeticException");
    }

    private static void leastRepetitions() {
        sentence("all 1 or more .. the least ones are meant");
        TokenFlow one = sums(2);
        one.edge(0, 1, 9, 9, 0);
        due("9 to 9", plan(one), "2");
        due("repetitions(0)", one.repetitions(0), 1);
        TokenFlow halved = sums(2);
        halved.edge(0, 1, 6, 4, 0);
        due("6 to 4", plan(halved), "5");
        due("repetitions", halved.repetitions(0) + " " + halved.repetitions(1), "2 3");
        TokenFlow three = sums(3);
        three.edge(0, 1, 5, 3, 0);
        three.edge(1, 2, 3, 2, 0);
        due("6, 10 and 15, of which each two have a divisor", plan(three), "31");
        due("repetitions(0)", three.repetitions(0), 6);
        due("repetitions(1)", three.repetitions(1), 10);
        due("repetitions(2)", three.repetitions(2), 15);
        TokenFlow back = sums(4);
        back.edge(0, 1, 8, 9, 0);
        back.edge(1, 2, 9, 8, 0);
        back.edge(3, 2, 4, 4, 0);
        due("9, 8, 9 and 9", plan(back), "35");
        due("repetitions(3)", back.repetitions(3), 9);
        TokenFlow chain = sums(8);
        for (int n = 0; n < 7; n++) {
            chain.edge(n, n + 1, n % 2 == 0 ? 9 : 6, n % 2 == 0 ? 6 : 9, 0);
        }
        due("a chain of eight, 2 and 3 by turns", plan(chain), "20");
    }

    private static void moreThan200() {
        sentence("UnsupportedOperationException if they are more than 200 together");
        TokenFlow x = sums(5);
        x.edge(0, 1, 9, 1, 0);
        x.edge(1, 2, 7, 1, 0);
        x.edge(1, 3, 7, 1, 0);
        x.edge(1, 4, 7, 1, 0);
        due("1 + 9 + 3 * 63", plan(x), "199");
        x.actor(COUNT, 0);
        x.edge(0, 5, 1, 1, 0);
        due("one more", plan(x), "200");
        due("planned()", x.planned(), 200);
        due("firing(199)", x.firing(199), 5);
        due("firing(200)", x.firing(200), -1);
        due("run(20)", run(x, 20), "4000");
        due("state(5)", x.state(5), 20);
        x.actor(COUNT, 0);
        x.edge(6, 0, 1, 1, 0);
        due("two more", plan(x), "UnsupportedOperationException");
        due("planned() of two more", x.planned(), 0);
        due("the most of all", plan(chain(9, 1, 0)), "UnsupportedOperationException");
        due("the most of all the other way", plan(chain(1, 9, 0)), "UnsupportedOperationException");
        due("many for each actor", plan(chain(9, 8, 0)), "UnsupportedOperationException");
    }

    /** Networks for which two or more hold: in each the one that the document names earlier. */
    private static void firstThatApplies() {
        sentence("Throws, the first that applies: IllegalStateException; ArithmeticException; "
            + "UnsupportedOperationException; NoSuchElementException");
        TokenFlow apartOdd = sums(2);
        apartOdd.edge(0, 0, 2, 1, 0);
        due("not connected, no repetitions", plan(apartOdd), "IllegalStateException");
        TokenFlow apartOddLast = sums(2);
        apartOddLast.edge(1, 1, 2, 1, 9);
        due("not connected, no repetitions of the last", plan(apartOddLast), "IllegalStateException");
        TokenFlow apartMany = sums(5);
        for (int n = 0; n < 3; n++) {
            apartMany.edge(n, n + 1, 9, 1, 0);
        }
        due("not connected, more than 200", plan(apartMany), "IllegalStateException");
        TokenFlow apartStuck = sums(2);
        apartStuck.edge(0, 0, 1, 1, 0);
        due("not connected, stuck", plan(apartStuck), "IllegalStateException");
        TokenFlow oddMany = chain(9, 1, 0);
        oddMany.edge(0, 7, 1, 1, 0);
        due("no repetitions, more than 200 but for an edge", plan(oddMany), "ArithmeticException");
        TokenFlow oddStuck = sums(2);
        oddStuck.edge(0, 1, 1, 1, 0);
        oddStuck.edge(1, 0, 1, 2, 0);
        due("no repetitions, stuck", plan(oddStuck), "ArithmeticException");
        TokenFlow manyStuck = chain(9, 1, 0);
        manyStuck.edge(0, 0, 1, 1, 0);
        due("more than 200, stuck", plan(manyStuck), "UnsupportedOperationException");
        TokenFlow all = sums(5);
        for (int n = 0; n < 3; n++) {
            all.edge(n, n + 1, 9, 1, 0);
        }
        all.edge(0, 0, 1, 2, 0);
        due("all of them", plan(all), "IllegalStateException");
        all.edge(3, 4, 1, 1, 0);
        due("all but the first", plan(all), "ArithmeticException");
    }

    // ---- Terms: the plan

    private static void plans() {
        leastNumberFirst();
        firedLessOften();
        atLeastAsManyAsItTakes();
        forEachEdgeToWhich();
        beginWithTokensThatWait();
        noSuchFiring();
    }

    private static void leastNumberFirst() {
        sentence("each time the actor with the least number");
        TokenFlow x = sums(3);
        x.edge(2, 1, 2, 1, 0);
        x.edge(1, 0, 3, 2, 1);
        plan(x);
        due("the least that can, each time anew", firings(x), "[2, 1, 0, 0, 1, 0]");
        TokenFlow free = sums(4);
        free.edge(3, 0, 1, 1, 1);
        free.edge(3, 1, 1, 1, 1);
        free.edge(3, 2, 1, 1, 1);
        plan(free);
        due("all can from the first", firings(free), "[0, 1, 2, 3]");
    }

    private static void firedLessOften() {
        sentence("that has fired less often in it than its repetitions say");
        TokenFlow x = sums(2);
        x.edge(0, 1, 1, 3, 9);
        plan(x);
        due("the first is never without tokens", firings(x), "[0, 0, 0, 1]");
        TokenFlow y = sums(2);
        y.edge(1, 0, 1, 1, 9);
        plan(y);
        due("the first has tokens for nine", firings(y), "[0, 1]");
    }

    private static void atLeastAsManyAsItTakes() {
        sentence("and for each edge to which there are at least as many tokens as it takes");
        String[] due = {"[1, 0, 0]", "[1, 0, 0]", "[0, 1, 0]", "[0, 1, 0]", "[0, 0, 1]"};
        for (int waiting = 0; waiting < due.length; waiting++) {
            TokenFlow x = sums(2);
            x.edge(1, 0, 4, 2, waiting);
            plan(x);
            due("takes 2, " + waiting + " waiting", firings(x), due[waiting]);
        }
    }

    private static void forEachEdgeToWhich() {
        sentence("for each edge to which (not for one of them)");
        int[][] waiting = {{2, 1}, {1, 2}, {2, 2}};
        String[] due = {"[1, 0]", "[1, 0]", "[0, 1]"};
        for (int k = 0; k < due.length; k++) {
            TokenFlow x = sums(2);
            x.edge(1, 0, 2, 2, waiting[k][0]);
            x.edge(1, 0, 2, 2, waiting[k][1]);
            plan(x);
            due("waiting " + Arrays.toString(waiting[k]), firings(x), due[k]);
        }
    }

    private static void beginWithTokensThatWait() {
        sentence("when the edges begin with the tokens that wait at the start");
        TokenFlow x = sums(2);
        x.edge(1, 0, 1, 1, 0);
        plan(x);
        due("none waits", firings(x), "[1, 0]");
        x.delay(0, 1);
        plan(x);
        due("one waits", firings(x), "[0, 1]");
        run(x, 3);
        plan(x);
        due("one waits, behind a run", firings(x), "[0, 1]");
        x.delay(0, 0);
        plan(x);
        due("none waits any more", firings(x), "[1, 0]");
    }

    private static void noSuchFiring() {
        sentence("NoSuchElementException if at some time there is no such firing though some are left");
        for (int takes = 1; takes <= 9; takes++) {
            TokenFlow x = sums(1);
            x.edge(0, 0, takes, takes, takes - 1);
            due("a loop of " + takes + " with one too few", plan(x), "NoSuchElementException");
            x.delay(0, takes);
            due("a loop of " + takes + " with enough", plan(x), "1");
        }
        TokenFlow half = sums(2);
        half.edge(0, 1, 1, 4, 0);
        half.edge(1, 0, 4, 1, 3);
        due("the last firing but one is missing", plan(half), "NoSuchElementException");
        half.delay(1, 4);
        due("it is there", plan(half), "5");
        TokenFlow last = sums(3);
        last.edge(0, 1, 1, 1, 0);
        last.edge(1, 2, 1, 1, 0);
        last.edge(2, 2, 3, 3, 2);
        due("the last firing is missing", plan(last), "NoSuchElementException");
        due("planned()", last.planned(), 0);
        due("firing(0)", last.firing(0), -1);
        last.delay(2, 3);
        due("the last firing is there", plan(last), "3");
        TokenFlow eight = chain(1, 1, 0);
        eight.edge(7, 0, 1, 1, 0);
        due("a ring of eight without tokens", plan(eight), "NoSuchElementException");
        eight.clear();
        eight.actor(SUM, 0);
        eight.edge(0, 0, 1, 1, 0);
        due("a loop without tokens where eight were before", plan(eight), "NoSuchElementException");
        TokenFlow many = sums(5);
        many.edge(0, 1, 9, 1, 0);
        many.edge(1, 2, 7, 1, 0);
        many.edge(1, 3, 7, 1, 0);
        many.edge(1, 4, 7, 1, 0);
        many.edge(4, 4, 1, 1, 0);
        due("the last 63 of 199 are missing", plan(many), "NoSuchElementException");
        many.delay(4, 1);
        due("they are there", plan(many), "199");
    }

    // ---- Terms: the bound

    private static void bounds() {
        boundAtTheBeginning();
        boundBehindAFiring();
        boundNotWithinAFiring();
        greatBounds();
    }

    private static void boundAtTheBeginning() {
        sentence("the greatest number of tokens that lie on it at the beginning of the plan");
        for (int waiting = 1; waiting <= 9; waiting++) {
            TokenFlow x = sums(2);
            x.edge(1, 0, 1, 1, waiting);
            plan(x);
            due("taken first, of " + waiting, x.bound(0), waiting);
        }
    }

    private static void boundBehindAFiring() {
        sentence("or behind one of its firings");
        TokenFlow first = sums(2);
        first.edge(0, 1, 4, 1, 0);
        plan(first);
        due("behind the first", first.bound(0), 4);
        TokenFlow middle = sums(3);
        middle.edge(0, 1, 2, 3, 1);
        middle.edge(2, 0, 1, 1, 1);
        due("plan() of the middle", plan(middle), "8");
        due("firings of the middle", firings(middle), "[0, 1, 2, 0, 2, 0, 1, 2]");
        due("behind one in the middle", middle.bound(0), 4);
        TokenFlow last = sums(2);
        last.edge(1, 0, 1, 3, 3);
        plan(last);
        due("behind the last", last.bound(0), 3);
        TokenFlow least = sums(2);
        least.edge(0, 1, 1, 1, 0);
        plan(least);
        due("the least of all", least.bound(0), 1);
    }

    private static void boundNotWithinAFiring() {
        sentence("behind one of its firings (not within one)");
        for (int waiting = 4; waiting <= 9; waiting++) {
            TokenFlow x = sums(1);
            x.edge(0, 0, 4, 4, waiting);
            plan(x);
            due("a loop of 4 with " + waiting, x.bound(0), waiting);
        }
        TokenFlow pair = sums(2);
        pair.edge(0, 1, 3, 3, 5);
        pair.edge(1, 0, 3, 3, 3);
        plan(pair);
        due("there", pair.bound(0), 8);
        due("back", pair.bound(1), 3);
    }

    private static void greatBounds() {
        sentence("The BOUND of an edge (far above what waits)");
        TokenFlow x = new TokenFlow();
        x.actor(COUNT, 0);
        x.actor(SUM, 0);
        x.actor(SUM, 0);
        x.actor(SUM, 0);
        x.actor(STORE, 0);
        x.edge(0, 4, 9, 9, 9);
        x.edge(0, 1, 1, 9, 0);
        x.edge(1, 2, 1, 5, 0);
        x.edge(2, 3, 1, 2, 0);
        due("plan()", plan(x), "193");
        due("bound(0)", x.bound(0), 9 + 90 * 9);
        run(x, 2);
        due("all that came through", x.state(4), 9 * sumTo(178) + 179 * 36);
        due("the oldest", x.token(0, 0), 179);
        due("the newest", x.token(0, 8), 187);
        x.delay(0, 8);
        plan(x);
        due("bound(0) with one fewer", x.bound(0), 8 + 90 * 9);
    }

    // ---- Terms: changes and refusals

    private static void changesAndRefusals() {
        changesMakeThePlanVoid();
        changesBringToTheStart();
        refusedChangesNothing();
        refusedOfAFullNetworkChangesNothing();
        thrownWithoutPlanChangesNothing();
        planThatThrowsLeavesNoPlan();
    }

    private static void changesMakeThePlanVoid() {
        sentence("What changes the network makes the plan void");
        for (Change change : changes()) {
            TokenFlow x = middleOfARun();
            change.call().accept(x);
            due(change.name() + ": planned()", x.planned(), 0);
            due(change.name() + ": firing(0)", x.firing(0), -1);
            due(change.name() + ": repetitions(0)", x.repetitions(0), 0);
            due(change.name() + ": bound(0)", x.bound(0), -1);
            due(change.name() + ": run(1)", run(x, 1), "IllegalStateException");
        }
    }

    private static void changesBringToTheStart() {
        sentence("and brings all edges and states to the start");
        for (Change change : changes()) {
            TokenFlow x = middleOfARun();
            boolean cleared = change.name().equals("clear");
            int waiting = change.name().equals("delay") ? 5 : 4;
            change.call().accept(x);
            due(change.name() + ": state(0)", x.state(0), cleared ? 0 : 1);
            due(change.name() + ": state(1)", x.state(1), cleared ? 0 : 7);
            due(change.name() + ": value(0)", x.value(0), 0);
            due(change.name() + ": value(1)", x.value(1), 0);
            due(change.name() + ": tokens(0)", x.tokens(0), cleared ? -1 : waiting);
            for (int k = 0; k < waiting; k++) {
                due(change.name() + ": token(0, " + k + ")", x.token(0, k), 0);
            }
        }
    }

    private record Change(String name, Consumer<TokenFlow> call) { }

    private static Change[] changes() {
        return new Change[] {
            new Change("actor", x -> x.actor(SUM, 0)),
            new Change("edge", x -> x.edge(0, 1, 2, 2, 0)),
            new Change("delay", x -> x.delay(0, 5)),
            new Change("delay to the same number", x -> x.delay(0, 4)),
            new Change("clear", x -> x.clear()),
        };
    }

    /** Two actors, an edge with tokens and a loop, planned and run, so that nothing is as at the start. */
    private static TokenFlow middleOfARun() {
        TokenFlow x = new TokenFlow();
        x.actor(COUNT, 1);
        x.actor(STORE, 7);
        x.edge(0, 1, 2, 2, 4);
        x.edge(1, 1, 1, 1, 1);
        plan(x);
        run(x, 3);
        due("state(1) in the middle", x.state(1) != 7, true);
        due("token(0, 3) in the middle", x.token(0, 3), 4);
        return x;
    }

    private static void refusedChangesNothing() {
        sentence("A call that throws or is refused changes nothing");
        Supplier<TokenFlow> make = TokenFlowBoundaries::middleOfARun;
        for (int no : new int[] {-1, 6, MIN, MAX}) {
            unchanged("actor of kind " + no, make, x -> answer(x.actor(no, 5), -1));
        }
        for (int no : new int[] {-1, 2, MIN, MAX}) {
            unchanged("edge from " + no, make, x -> answer(x.edge(no, 1, 1, 1, 1), -1));
            unchanged("edge to " + no, make, x -> answer(x.edge(0, no, 1, 1, 1), -1));
            unchanged("delay of " + no, make, x -> answer(x.delay(no, 1), false));
            unchanged("both of delay " + no, make, x -> answer(x.delay(no, 10), false));
        }
        for (int no : new int[] {0, 10, MIN, MAX}) {
            unchanged("edge that gives " + no, make, x -> answer(x.edge(0, 1, no, 1, 1), -2));
            unchanged("edge that takes " + no, make, x -> answer(x.edge(0, 1, 1, no, 1), -2));
        }
        for (int no : new int[] {-1, 10, MIN, MAX}) {
            unchanged("edge with waiting " + no, make, x -> answer(x.edge(0, 1, 1, 1, no), -2));
            unchanged("delay to " + no, make, x -> answer(x.delay(0, no), false));
        }
        for (int no : new int[] {0, -1, 21, MIN, MAX}) {
            unchanged("run(" + no + ")", make, x -> answer(run(x, no), "IllegalArgumentException"));
        }
    }

    private static void refusedOfAFullNetworkChangesNothing() {
        sentence("A call that throws or is refused changes nothing (there are 8, there are 12)");
        Supplier<TokenFlow> make = () -> {
            TokenFlow x = new TokenFlow();
            for (int n = 0; n < 8; n++) {
                x.actor(n % 2 == 0 ? COUNT : STORE, n);
            }
            for (int e = 0; e < 12; e++) {
                x.edge(e % 7, e % 7 + 1, 1, 1, e % 2);
            }
            plan(x);
            run(x, 2);
            return x;
        };
        unchanged("the ninth actor", make, x -> answer(x.actor(COUNT, 5), -2));
        unchanged("the thirteenth edge", make, x -> answer(x.edge(0, 1, 1, 1, 9), -3));
    }

    private static void thrownWithoutPlanChangesNothing() {
        sentence("A call that throws or is refused changes nothing (run and plan without a plan)");
        Supplier<TokenFlow> make = () -> {
            TokenFlow x = middleOfARun();
            x.delay(0, 3);
            return x;
        };
        unchanged("run(1)", make, x -> answer(run(x, 1), "IllegalStateException"));
        Supplier<TokenFlow> stuck = () -> {
            TokenFlow x = middleOfARun();
            x.delay(1, 0);
            return x;
        };
        unchanged("plan() that is stuck", stuck, x -> answer(plan(x), "NoSuchElementException"));
        Supplier<TokenFlow> apart = () -> {
            TokenFlow x = middleOfARun();
            x.actor(COUNT, 3);
            return x;
        };
        unchanged("plan() that is not connected", apart, x -> answer(plan(x), "IllegalStateException"));
        Supplier<TokenFlow> odd = () -> {
            TokenFlow x = middleOfARun();
            x.edge(0, 1, 2, 1, 3);
            return x;
        };
        unchanged("plan() without repetitions", odd, x -> answer(plan(x), "ArithmeticException"));
        unchanged("plan() of too many", () -> chain(9, 1, 2),
            x -> answer(plan(x), "UnsupportedOperationException"));
    }

    private static void planThatThrowsLeavesNoPlan() {
        sentence("but plan() that throws makes the plan void");
        TokenFlow x = middleOfARun();
        x.delay(1, 0);
        due("plan()", plan(x), "NoSuchElementException");
        due("planned()", x.planned(), 0);
        due("firing(0)", x.firing(0), -1);
        due("repetitions(0)", x.repetitions(0), 0);
        due("bound(0)", x.bound(0), -1);
        due("run(1)", run(x, 1), "IllegalStateException");
        x.delay(1, 1);
        due("plan() when it is mended", plan(x), "2");
        due("run(1) when it is mended", run(x, 1), "2");
    }

    /**
     * One of two like objects gets the call: all that can be seen stays as it
     * was, and stays like the other's behind later calls too.
     */
    private static void unchanged(String name, Supplier<TokenFlow> make, Consumer<TokenFlow> call) {
        TokenFlow plain = make.get();
        TokenFlow tried = make.get();
        due(name + ": alike before", look(tried), look(plain));
        call.accept(tried);
        due(name + ": alike at once", look(tried), look(plain));
        due(name + ": run(1) behind it", run(tried, 1), run(plain, 1));
        due(name + ": alike behind run(1)", look(tried), look(plain));
        tried.reset();
        plain.reset();
        due(name + ": alike behind reset()", look(tried), look(plain));
        due(name + ": plan() behind it", plan(tried), plan(plain));
        due(name + ": alike behind plan()", look(tried), look(plain));
    }

    private static void answer(Object got, Object want) {
        due("the call itself", got, want);
    }

    /** All that can be seen of the object. */
    private static String look(TokenFlow x) {
        StringBuilder seen = new StringBuilder();
        int actors = x.actors();
        int edges = x.edges();
        seen.append(actors).append(' ').append(edges).append(' ').append(firings(x));
        for (int n = 0; n < actors; n++) {
            seen.append(" | ").append(x.repetitions(n)).append(' ').append(x.value(n));
            seen.append(' ').append(x.state(n));
        }
        for (int e = 0; e < edges; e++) {
            int tokens = x.tokens(e);
            seen.append(" | ").append(x.bound(e)).append(' ').append(tokens).append(':');
            for (int k = 0; k < tokens; k++) {
                seen.append(' ').append(x.token(e, k));
            }
        }
        return seen.toString();
    }

    // ---- Promises 2 to 4: actor, edge, delay

    private static void actorsAndEdges() {
        actorKind0To5();
        actorFirstThatHolds();
        edgeOfNoActor();
        edgeFirstThatHolds();
        delay0To9();
        delaySameNumber();
        delayRefused();
    }

    private static void actorKind0To5() {
        sentence("Refused: -1 kind is not 0 .. 5");
        TokenFlow x = new TokenFlow();
        due("kind -1", x.actor(-1, 0), -1);
        due("kind 0", x.actor(0, 0), 0);
        due("kind 5", x.actor(5, 0), 1);
        due("kind 6", x.actor(6, 0), -1);
        due("the least kind", x.actor(MIN, 0), -1);
        due("the greatest kind", x.actor(MAX, 0), -1);
        due("actors()", x.actors(), 2);
    }

    private static void actorFirstThatHolds() {
        sentence("Refused, first that holds: -1 kind is not 0 .. 5; -2 there are 8");
        TokenFlow x = sums(7);
        due("no kind, there are 7", x.actor(6, 0), -1);
        due("the eighth", x.actor(5, 0), 7);
        due("there are 8", x.actor(5, 0), -2);
        due("there are 8 still", x.actor(0, 0), -2);
        due("no kind, and there are 8", x.actor(6, 0), -1);
        due("no kind below, and there are 8", x.actor(-1, 0), -1);
        due("actors()", x.actors(), 8);
        due("state(8)", x.state(8), 0);
    }

    private static void edgeOfNoActor() {
        sentence("Refused: -1 from or to is no actor");
        TokenFlow none = new TokenFlow();
        due("there are none", none.edge(0, 0, 1, 1, 0), -1);
        for (int size = 1; size <= 8; size++) {
            TokenFlow x = sums(size);
            due("from behind the last", x.edge(size, 0, 1, 1, 0), -1);
            due("to behind the last", x.edge(0, size, 1, 1, 0), -1);
            due("from -1", x.edge(-1, 0, 1, 1, 0), -1);
            due("to -1", x.edge(0, -1, 1, 1, 0), -1);
            due("both", x.edge(-1, size, 1, 1, 0), -1);
            due("from the least", x.edge(MIN, 0, 1, 1, 0), -1);
            due("to the greatest", x.edge(0, MAX, 1, 1, 0), -1);
            due("edges()", x.edges(), 0);
            due("from the last", x.edge(size - 1, 0, 1, 1, 0), 0);
            due("to the last", x.edge(0, size - 1, 1, 1, 0), 1);
        }
    }

    private static void edgeFirstThatHolds() {
        sentence("Refused, first that holds: -1 from or to is no actor; "
            + "-2 gives or takes is not 1 .. 9, or waiting not 0 .. 9; -3 there are 12");
        TokenFlow x = sums(2);
        for (int e = 0; e < 11; e++) {
            x.edge(0, 1, 1, 1, 0);
        }
        int[][] noActor = {{2, 1, 1, 1, 0}, {0, 2, 1, 1, 0}, {2, 1, 0, 1, 0}, {0, 2, 1, 10, 0}, {-1, 0, 1, 1, 10}};
        int[][] noNumber = {{0, 1, 0, 1, 0}, {0, 1, 10, 1, 0}, {0, 1, 1, 0, 0}, {0, 1, 1, 10, 0},
            {0, 1, 1, 1, -1}, {0, 1, 1, 1, 10}, {0, 1, 0, 10, -1}};
        for (int there = 11; there <= 12; there++) {
            due("edges()", x.edges(), there);
            for (int[] edge : noActor) {
                due("there are " + there + ", " + Arrays.toString(edge), edge(x, edge), -1);
            }
            for (int[] edge : noNumber) {
                due("there are " + there + ", " + Arrays.toString(edge), edge(x, edge), -2);
            }
            due("there are " + there, x.edge(1, 0, 9, 9, 9), there == 11 ? 11 : -3);
        }
        due("there are 12 still", x.edge(0, 1, 1, 1, 0), -3);
        due("edges()", x.edges(), 12);
        due("tokens(12)", x.tokens(12), -1);
    }

    private static void delay0To9() {
        sentence("The tokens waiting at the start on edge e become another number, 0 .. 9");
        TokenFlow x = sums(2);
        x.edge(0, 1, 1, 1, 4);
        x.edge(0, 1, 1, 1, 6);
        for (int waiting : new int[] {0, 9, 1, 8, 9, 0}) {
            due("delay(1, " + waiting + ")", x.delay(1, waiting), true);
            due("tokens(1)", x.tokens(1), waiting);
            due("tokens(0), the other's", x.tokens(0), 4);
            plan(x);
            due("bound(1)", x.bound(1), waiting + 1);
            run(x, 2);
            x.reset();
            due("tokens(1) behind reset()", x.tokens(1), waiting);
            for (int k = 0; k < waiting; k++) {
                due("token(1, " + k + ")", x.token(1, k), 0);
            }
        }
    }

    private static void delaySameNumber() {
        sentence("this changes the network, also if it is the same number");
        for (int waiting : new int[] {0, 9}) {
            TokenFlow x = counterToStore(1, 1, waiting);
            run(x, 12);
            due("state(0)", x.state(0), 13);
            due("delay(0, " + waiting + ")", x.delay(0, waiting), true);
            due("planned()", x.planned(), 0);
            due("state(0) behind it", x.state(0), 1);
            due("state(1) behind it", x.state(1), 0);
            due("value(0) behind it", x.value(0), 0);
            due("tokens(0) behind it", x.tokens(0), waiting);
            due("token(0, 0) behind it", x.token(0, 0), 0);
            due("token(0, 8) behind it", x.token(0, 8), 0);
        }
    }

    private static void delayRefused() {
        sentence("false if there is no edge e or it is another number");
        TokenFlow none = sums(2);
        due("there is none", none.delay(0, 0), false);
        for (int size = 1; size <= 12; size++) {
            TokenFlow x = sums(2);
            for (int e = 0; e < size; e++) {
                x.edge(0, 1, 1, 1, 0);
            }
            due("of the last", x.delay(size - 1, 3), true);
            due("of one behind the last", x.delay(size, 3), false);
            due("of -1", x.delay(-1, 3), false);
            due("to -1", x.delay(size - 1, -1), false);
            due("to 10", x.delay(size - 1, 10), false);
            due("to 10 of none", x.delay(size, 10), false);
            due("tokens of the last", x.tokens(size - 1), 3);
            due("to the least", x.delay(0, MIN), false);
            due("to the greatest", x.delay(0, MAX), false);
            due("of the least", x.delay(MIN, 0), false);
            due("of the greatest", x.delay(MAX, 0), false);
        }
    }

    // ---- Promises 1, 5, 6, 9: a new object, reset, clear, plan

    private static void startsAndClears() {
        newObject();
        resetToTheStart();
        resetKeepsThePlan();
        clearOfAll();
        clearLeavesRoom();
        countsOfActorsAndEdges();
        planBringsToTheStart();
    }

    private static void newObject() {
        sentence("No actors, no edges, no plan.");
        due("all that can be seen", look(new TokenFlow()), "0 0 []");
        TokenFlow x = new TokenFlow();
        due("planned()", x.planned(), 0);
        due("run(1)", run(x, 1), "IllegalStateException");
        due("run(0)", run(x, 0), "IllegalStateException");
        due("plan()", plan(x), "IllegalStateException");
        due("delay(0, 0)", x.delay(0, 0), false);
        due("edge(0, 0, ..)", x.edge(0, 0, 1, 1, 0), -1);
        due("tokens(0)", x.tokens(0), -1);
        due("bound(0)", x.bound(0), -1);
        due("firing(0)", x.firing(0), -1);
        x.reset();
        due("behind reset()", look(x), "0 0 []");
        x.clear();
        due("behind clear()", look(x), "0 0 []");
        TokenFlow other = new TokenFlow();
        other.actor(SUM, 4);
        due("behind another object's actor", look(x), "0 0 []");
    }

    private static void resetToTheStart() {
        sentence("All edges and states become as at the start");
        TokenFlow x = counterToStore(3, 2, 9);
        String start = look(x);
        for (int n : new int[] {1, 3, 20}) {
            run(x, n);
            due("changed by run(" + n + ")", look(x).equals(start), false);
            x.reset();
            due("behind reset()", look(x), start);
            x.reset();
            due("behind reset() once more", look(x), start);
        }
    }

    private static void resetKeepsThePlan() {
        sentence("the plan stays");
        TokenFlow x = counterToStore(3, 2, 9);
        x.reset();
        due("planned()", x.planned(), 5);
        due("firings", firings(x), "[0, 0, 1, 1, 1]");
        due("bound(0)", x.bound(0), 15);
        due("repetitions(1)", x.repetitions(1), 3);
        due("run(20)", run(x, 20), "100");
        x.delay(0, 9);
        x.reset();
        due("planned() of a void one", x.planned(), 0);
        due("run(1) of a void one", run(x, 1), "IllegalStateException");
    }

    private static void clearOfAll() {
        sentence("There are no actors and no edges any more.");
        TokenFlow x = full();
        plan(x);
        run(x, 1);
        x.clear();
        due("all that can be seen", look(x), "0 0 []");
        for (int n = 0; n < 8; n++) {
            due("state(" + n + ")", x.state(n), 0);
            due("value(" + n + ")", x.value(n), 0);
            due("repetitions(" + n + ")", x.repetitions(n), 0);
        }
        for (int e = 0; e < 12; e++) {
            due("tokens(" + e + ")", x.tokens(e), -1);
            due("token(" + e + ", 0)", x.token(e, 0), 0);
            due("bound(" + e + ")", x.bound(e), -1);
            due("delay(" + e + ", 1)", x.delay(e, 1), false);
        }
        due("edge(0, 1, ..)", x.edge(0, 1, 1, 1, 0), -1);
        due("run(1)", run(x, 1), "IllegalStateException");
        due("plan()", plan(x), "IllegalStateException");
        x.clear();
        due("behind clear() once more", look(x), "0 0 []");
    }

    private static void clearLeavesRoom() {
        sentence("There are no actors and no edges any more. (8 and 12 may be made again)");
        TokenFlow x = full();
        plan(x);
        run(x, 3);
        x.clear();
        due("the first actor again", x.actor(COUNT, 60), 0);
        due("its state", x.state(0), 60);
        due("its value", x.value(0), 0);
        due("plan() of it alone", plan(x), "1");
        for (int n = 1; n < 8; n++) {
            due("actor " + n + " again", x.actor(SUM, n), n);
        }
        due("actor 8 again", x.actor(SUM, 8), -2);
        for (int e = 0; e < 12; e++) {
            due("edge " + e + " again", x.edge(e % 7 + 1, e % 7, 2, 2, 3), e);
            due("its tokens", x.tokens(e), 3);
            due("its newest", x.token(e, 2), 0);
        }
        due("edge 12 again", x.edge(0, 1, 1, 1, 0), -3);
        due("plan() of all", plan(x), "8");
    }

    private static void countsOfActorsAndEdges() {
        sentence("How many actors there are. How many edges there are.");
        TokenFlow x = new TokenFlow();
        for (int n = 0; n <= 9; n++) {
            due("actors() behind " + n, x.actors(), Math.min(n, 8));
            due("edges() behind actors", x.edges(), 0);
            x.actor(COUNT, 0);
        }
        for (int e = 0; e <= 13; e++) {
            due("edges() behind " + e, x.edges(), Math.min(e, 12));
            due("actors() behind edges", x.actors(), 8);
            x.edge(0, 1, 1, 1, 0);
        }
    }

    private static void planBringsToTheStart() {
        sentence("the number of its firings; all edges and states become as at the start");
        TokenFlow x = counterToStore(3, 2, 9);
        String start = look(x);
        run(x, 7);
        due("changed by run(7)", look(x).equals(start), false);
        due("plan()", plan(x), "5");
        due("behind plan()", look(x), start);
        TokenFlow one = new TokenFlow();
        one.actor(COUNT, 3);
        due("plan() of one", plan(one), "1");
        run(one, 20);
        due("plan() of one again", plan(one), "1");
        due("state(0)", one.state(0), 3);
        due("value(0)", one.value(0), 0);
    }

    // ---- Promises 10 to 18: what can be looked at, and run

    private static void looks() {
        plannedZeroIfVoid();
        firingMinusOneIfNone();
        repetitionsZeroIfNone();
        boundMinusOneIfNone();
        run1To20();
        runFirstThatApplies();
        runOneAfterAnother();
        tokensMinusOneIfNone();
        tokenZeroIfNone();
        valueZeroIfNotFired();
        valueOfLatestFiring();
        stateZeroIfNone();
    }

    private static void plannedZeroIfVoid() {
        sentence("How many firings the plan has; 0 if it is void.");
        TokenFlow x = new TokenFlow();
        due("of a new object", x.planned(), 0);
        x.actor(SUM, 0);
        due("before plan()", x.planned(), 0);
        plan(x);
        due("of one firing", x.planned(), 1);
        x.actor(6, 0);
        due("behind a refused call", x.planned(), 1);
        run(x, 20);
        due("behind run(20)", x.planned(), 1);
        x.actor(SUM, 0);
        due("behind a change", x.planned(), 0);
        plan(x);
        due("behind a plan() that threw", x.planned(), 0);
    }

    private static void firingMinusOneIfNone() {
        sentence("The actor of the i-th firing of the plan (0 the first); -1 if there is none.");
        TokenFlow x = sums(2);
        x.edge(0, 1, 1, 3, 0);
        due("of a void one", x.firing(0), -1);
        plan(x);
        due("the first", x.firing(0), 0);
        due("the last but one", x.firing(2), 0);
        due("the last", x.firing(3), 1);
        for (int no : new int[] {-1, 4, 5, 199, 200, 201, MIN, MAX}) {
            due("firing(" + no + ")", x.firing(no), -1);
        }
        x.delay(0, 0);
        plan(x);
        due("the last again", x.firing(3), 1);
        x.delay(0, 0);
        due("of a void one again", x.firing(0), -1);
        x.clear();
        x.actor(SUM, 0);
        plan(x);
        due("the only one of a shorter plan", x.firing(0), 0);
        due("behind it, where an older plan had one", x.firing(1), -1);
    }

    private static void repetitionsZeroIfNone() {
        sentence("The repetitions of actor n in the plan; 0 if it is void or there is no such actor.");
        TokenFlow x = sums(2);
        x.edge(0, 1, 1, 9, 0);
        due("of a void one", x.repetitions(1), 0);
        plan(x);
        due("of the first", x.repetitions(0), 9);
        due("of the last", x.repetitions(1), 1);
        for (int no : new int[] {-1, 2, 7, 8, 9, MIN, MAX}) {
            due("repetitions(" + no + ")", x.repetitions(no), 0);
        }
        TokenFlow one = sums(1);
        plan(one);
        due("of the only one, which fires once", one.repetitions(0), 1);
        TokenFlow full = full();
        plan(full);
        due("of the eighth", full.repetitions(7), 1);
        due("of a ninth", full.repetitions(8), 0);
        full.delay(0, 0);
        due("of a void one again", full.repetitions(7), 0);
    }

    private static void boundMinusOneIfNone() {
        sentence("The bound of edge e in the plan; -1 if it is void or there is no such edge.");
        TokenFlow x = sums(2);
        x.edge(0, 1, 1, 1, 3);
        x.edge(0, 1, 2, 2, 0);
        due("of a void one", x.bound(0), -1);
        plan(x);
        due("of the first", x.bound(0), 4);
        due("of the last", x.bound(1), 2);
        for (int no : new int[] {-1, 2, 11, 12, 13, MIN, MAX}) {
            due("bound(" + no + ")", x.bound(no), -1);
        }
        TokenFlow full = full();
        plan(full);
        due("of the twelfth", full.bound(11), 2);
        due("of a thirteenth", full.bound(12), -1);
        full.delay(0, 0);
        due("of a void one again", full.bound(11), -1);
    }

    private static void run1To20() {
        sentence("Runs the plan n times (n 1 .. 20) .. IllegalArgumentException if n is another number");
        TokenFlow x = counterToStore(3, 2, 0);
        int fired = 0;
        for (int n = 1; n <= 20; n++) {
            due("run(" + n + ")", run(x, n), Integer.toString(5 * n));
            fired += 2 * n;
            due("state(0) behind it", x.state(0), 1 + fired);
        }
        for (int no : new int[] {0, 21, -1, -20, 22, MIN, MAX}) {
            due("run(" + no + ")", run(x, no), "IllegalArgumentException");
            due("state(0) behind it", x.state(0), 1 + fired);
        }
    }

    private static void runFirstThatApplies() {
        sentence("Throws, the first that applies: IllegalStateException if the plan is void; "
            + "IllegalArgumentException if n is another number");
        TokenFlow x = sums(1);
        for (int n : new int[] {1, 20, 0, 21, -1, MIN, MAX}) {
            due("run(" + n + ") of a void one", run(x, n), "IllegalStateException");
        }
        plan(x);
        due("run(21)", run(x, 21), "IllegalArgumentException");
        due("run(20)", run(x, 20), "20");
        x.delay(0, 0);
        due("run(1) behind a refused delay", run(x, 1), "1");
        x.edge(0, 0, 1, 1, 1);
        due("run(21) of a void one again", run(x, 21), "IllegalStateException");
    }

    private static void runOneAfterAnother() {
        sentence("Runs the plan n times, one after another");
        TokenFlow once = counterToStore(5, 3, 7);
        TokenFlow often = counterToStore(5, 3, 7);
        run(once, 20);
        for (int n = 0; n < 20; n++) {
            run(often, 1);
        }
        due("run(20) and 20 times run(1)", look(once), look(often));
    }

    private static void tokensMinusOneIfNone() {
        sentence("How many tokens lie on edge e; -1 if there is none.");
        TokenFlow x = sums(2);
        due("there is none", x.tokens(0), -1);
        x.edge(0, 1, 1, 1, 0);
        x.edge(0, 1, 1, 1, 9);
        due("an empty one", x.tokens(0), 0);
        due("the last", x.tokens(1), 9);
        for (int no : new int[] {-1, 2, 11, 12, 13, MIN, MAX}) {
            due("tokens(" + no + ")", x.tokens(no), -1);
        }
        due("of the twelfth", full().tokens(11), 1);
        due("of a thirteenth", full().tokens(12), -1);
    }

    private static void tokenZeroIfNone() {
        sentence("The k-th token on edge e (0 the oldest); 0 if there is none.");
        TokenFlow x = new TokenFlow();
        x.actor(SUM, 50);
        x.actor(SUM, 0);
        x.edge(0, 1, 9, 9, 9);
        x.edge(0, 1, 9, 9, 3);
        x.edge(0, 1, 9, 9, 0);
        plan(x);
        run(x, 3);
        due("the oldest of nine", x.token(0, 0), 50);
        due("the newest of nine", x.token(0, 8), 58);
        due("the oldest of three", x.token(1, 0), 56);
        due("the newest of three", x.token(1, 2), 58);
        for (int no : new int[] {-1, 9, 10, 17, 18, 19, MIN, MAX}) {
            due("token(0, " + no + ") of nine", x.token(0, no), 0);
        }
        for (int no : new int[] {-1, 3, 4, 5, 8, 9, 11, 12, MIN, MAX}) {
            due("token(1, " + no + ") of three", x.token(1, no), 0);
        }
        for (int k : new int[] {-1, 0, 1, 8, MIN, MAX}) {
            due("token(2, " + k + ") of an empty one", x.token(2, k), 0);
            for (int no : new int[] {-1, 3, 11, 12, MIN, MAX}) {
                due("token(" + no + ", " + k + ")", x.token(no, k), 0);
            }
        }
    }

    private static void valueZeroIfNotFired() {
        sentence("0 if it has not fired since then or there is none");
        TokenFlow x = new TokenFlow();
        due("there is none", x.value(0), 0);
        x.actor(COUNT, 40);
        due("not fired", x.value(0), 0);
        plan(x);
        due("not fired, planned", x.value(0), 0);
        run(x, 1);
        due("fired", x.value(0), 40);
        for (int no : new int[] {-1, 1, 7, 8, 9, MIN, MAX}) {
            due("value(" + no + ")", x.value(no), 0);
        }
        x.reset();
        due("not fired since reset()", x.value(0), 0);
        run(x, 2);
        due("fired again", x.value(0), 41);
        plan(x);
        due("not fired since plan()", x.value(0), 0);
        run(x, 3);
        x.actor(SUM, 3);
        due("not fired since a change", x.value(0), 0);
    }

    private static void valueOfLatestFiring() {
        sentence("The value of the latest firing of actor n since the start");
        TokenFlow x = sums(1);
        x.actor(COUNT, -3);
        x.edge(1, 0, 1, 3, 0);
        plan(x);
        run(x, 1);
        due("the third of three", x.value(1), -1);
        due("the only one", x.value(0), -3 - 2 - 1);
        run(x, 1);
        due("the sixth", x.value(1), 2);
        due("the second", x.value(0), 0 + 1 + 2);
        TokenFlow full = full();
        plan(full);
        run(full, 5);
        due("the eighth actor's", full.value(7), 11);
    }

    private static void stateZeroIfNone() {
        sentence("The state of actor n; 0 if there is none.");
        TokenFlow x = new TokenFlow();
        due("there is none", x.state(0), 0);
        x.actor(COUNT, 9);
        x.actor(SUM, -9);
        due("the first", x.state(0), 9);
        due("the last", x.state(1), -9);
        for (int no : new int[] {-1, 2, 7, 8, 9, MIN, MAX}) {
            due("state(" + no + ")", x.state(no), 0);
        }
        due("the eighth", full().state(7), 7);
        due("a ninth", full().state(8), 0);
    }

    // ---- Networks that several tests use

    /** A number of actors of kind SUM. */
    private static TokenFlow sums(int number) {
        TokenFlow x = new TokenFlow();
        for (int n = 0; n < number; n++) {
            x.actor(SUM, 0);
        }
        return x;
    }

    private static TokenFlow chain(int gives, int takes, int waiting) {
        TokenFlow x = sums(8);
        for (int n = 0; n < 7; n++) {
            x.edge(n, n + 1, gives, takes, waiting);
        }
        return x;
    }

    /** Eight counters, numbered by their states, and twelve edges with a token each. */
    private static TokenFlow full() {
        TokenFlow x = new TokenFlow();
        for (int n = 0; n < 8; n++) {
            x.actor(COUNT, n);
        }
        for (int e = 0; e < 12; e++) {
            x.edge(e % 7, e % 7 + 1, 1, 1, 1);
        }
        return x;
    }

    /** A COUNT from 1 with an edge to a STORE from 0; planned. */
    private static TokenFlow counterToStore(int gives, int takes, int waiting) {
        TokenFlow x = new TokenFlow();
        x.actor(COUNT, 1);
        x.actor(STORE, 0);
        x.edge(0, 1, gives, takes, waiting);
        plan(x);
        return x;
    }

    /** Actor 0, of the kind, that takes just these tokens in this order, run once. */
    private static TokenFlow fed(int kind, int a, int... tokens) {
        TokenFlow x = new TokenFlow();
        x.actor(kind, a);
        for (int k = 0; k < tokens.length; k++) {
            x.actor(SUM, tokens[k]);
            x.edge(k + 1, 0, 1, 1, 0);
        }
        plan(x);
        run(x, 1);
        return x;
    }

    private static int valueOf(int kind, int a, int... tokens) {
        return fed(kind, a, tokens).value(0);
    }

    private static int sumTo(int last) {
        return last > 0 ? last * (last + 1) / 2 : 0;
    }

    private static int edge(TokenFlow x, int[] edge) {
        return x.edge(edge[0], edge[1], edge[2], edge[3], edge[4]);
    }

    private static String firings(TokenFlow x) {
        int[] row = new int[x.planned()];
        for (int i = 0; i < row.length; i++) {
            row[i] = x.firing(i);
        }
        return Arrays.toString(row);
    }

    private static String plan(TokenFlow x) {
        try {
            return Integer.toString(x.plan());
        } catch (RuntimeException e) {
            return e.getClass().getSimpleName();
        }
    }

    private static String run(TokenFlow x, int n) {
        try {
            return Integer.toString(x.run(n));
        } catch (RuntimeException e) {
            return e.getClass().getSimpleName();
        }
    }

    private static void sentence(String words) {
        sentence = words;
        tests++;
    }

    private static void due(String call, Object got, Object want) {
        if (!got.equals(want)) {
            wrong++;
            System.out.println("\"" + sentence + "\": " + call + " answered " + got + ", due is " + want);
        }
    }
}
